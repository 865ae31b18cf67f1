theorem dX10_well_10 : decode cX10_well 10 = .ok (.invokestatic 93, 3) := by decide +kernel
theorem dX10_well_13 : decode cX10_well 13 = .ok (.istore 4, 2) := by decide +kernel
theorem dX10_well_15 : decode cX10_well 15 = .ok (.aload_n 0, 1) := by decide +kernel
theorem dX10_well_16 : decode cX10_well 16 = .ok (.iload_n 3, 1) := by decide +kernel
theorem dX10_well_17 : decode cX10_well 17 = .ok (.ifCond .ne 7, 3) := by decide +kernel
theorem dX10_well_20 : decode cX10_well 20 = .ok (.iconst 1, 1) := by decide +kernel
theorem dX10_well_21 : decode cX10_well 21 = .ok (.goto 26, 3) := by decide +kernel
theorem dX10_well_24 : decode cX10_well 24 = .ok (.iload 4, 2) := by decide +kernel
theorem dX10_well_26 : decode cX10_well 26 = .ok (.ifCond .ne 7, 3) := by decide +kernel
theorem dX10_well_29 : decode cX10_well 29 = .ok (.iconst 2, 1) := by decide +kernel
theorem dX10_well_30 : decode cX10_well 30 = .ok (.goto 17, 3) := by decide +kernel
theorem dX10_well_33 : decode cX10_well 33 = .ok (.aload_n 0, 1) := by decide +kernel
theorem dX10_well_34 : decode cX10_well 34 = .ok (.getfield 97, 3) := by decide +kernel
theorem dX10_well_37 : decode cX10_well 37 = .ok (.bipush 6, 2) := by decide +kernel
theorem dX10_well_39 : decode cX10_well 39 = .ok (.if_icmp .ne 7, 3) := by decide +kernel
theorem dX10_well_42 : decode cX10_well 42 = .ok (.iconst 3, 1) := by decide +kernel
theorem dX10_well_43 : decode cX10_well 43 = .ok (.goto 4, 3) := by decide +kernel
theorem dX10_well_46 : decode cX10_well 46 = .ok (.iconst 0, 1) := by decide +kernel
theorem dX10_well_47 : decode cX10_well 47 = .ok (.invokevirtual 107, 3) := by decide +kernel
theorem dX10_well_50 : decode cX10_well 50 = .ok (.ifCond .ne 5, 3) := by decide +kernel
theorem dX10_well_53 : decode cX10_well 53 = .ok (.iconst 0, 1) := by decide +kernel
theorem dX10_well_54 : decode cX10_well 54 = .ok (.ireturn, 1) := by decide +kernel
theorem dX10_well_55 : decode cX10_well 55 = .ok (.aload_n 0, 1) := by decide +kernel
theorem dX10_well_56 : decode cX10_well 56 = .ok (.getfield 58, 3) := by decide +kernel
theorem dX10_well_59 : decode cX10_well 59 = .ok (.aload_n 0, 1) := by decide +kernel
theorem dX10_well_60 : decode cX10_well 60 = .ok (.getfield 97, 3) := by decide +kernel
theorem dX10_well_63 : decode cX10_well 63 = .ok (.iload_n 1, 1) := by decide +kernel
theorem dX10_well_64 : decode cX10_well 64 = .ok (.iastore, 1) := by decide +kernel
theorem dX10_well_65 : decode cX10_well 65 = .ok (.aload_n 0, 1) := by decide +kernel
theorem dX10_well_66 : decode cX10_well 66 = .ok (.getfield 61, 3) := by decide +kernel
theorem dX10_well_69 : decode cX10_well 69 = .ok (.aload_n 0, 1) := by decide +kernel
theorem dX10_well_70 : decode cX10_well 70 = .ok (.getfield 97, 3) := by decide +kernel
theorem dX10_well_73 : decode cX10_well 73 = .ok (.iload_n 2, 1) := by decide +kernel
theorem dX10_well_74 : decode cX10_well 74 = .ok (.iastore, 1) := by decide +kernel
theorem dX10_well_75 : decode cX10_well 75 = .ok (.aload_n 0, 1) := by decide +kernel
theorem dX10_well_76 : decode cX10_well 76 = .ok (.getfield 64, 3) := by decide +kernel
theorem dX10_well_79 : decode cX10_well 79 = .ok (.aload_n 0, 1) := by decide +kernel
theorem dX10_well_80 : decode cX10_well 80 = .ok (.getfield 97, 3) := by decide +kernel
theorem dX10_well_83 : decode cX10_well 83 = .ok (.iconst 0, 1) := by decide +kernel
theorem dX10_well_84 : decode cX10_well 84 = .ok (.iastore, 1) := by decide +kernel
theorem dX10_well_85 : decode cX10_well 85 = .ok (.aload_n 0, 1) := by decide +kernel
theorem dX10_well_86 : decode cX10_well 86 = .ok (.dup, 1) := by decide +kernel
theorem dX10_well_87 : decode cX10_well 87 = .ok (.getfield 97, 3) := by decide +kernel
theorem dX10_well_90 : decode cX10_well 90 = .ok (.iconst 1, 1) := by decide +kernel
theorem dX10_well_91 : decode cX10_well 91 = .ok (.iadd, 1) := by decide +kernel
theorem dX10_well_92 : decode cX10_well 92 = .ok (.putfield 97, 3) := by decide +kernel
theorem dX10_well_95 : decode cX10_well 95 = .ok (.aload_n 0, 1) := by decide +kernel
theorem dX10_well_96 : decode cX10_well 96 = .ok (.getfield 97, 3) := by decide +kernel
theorem dX10_well_99 : decode cX10_well 99 = .ok (.iconst 1, 1) := by decide +kernel
theorem dX10_well_100 : decode cX10_well 100 = .ok (.isub, 1) := by decide +kernel
theorem dX10_well_101 : decode cX10_well 101 = .ok (.ireturn, 1) := by decide +kernel
theorem dX10_drought_0 : decode cX10_drought 0 = .ok (.iload_n 2, 1) := by decide +kernel
theorem dX10_drought_1 : decode cX10_drought 1 = .ok (.iconst 0, 1) := by decide +kernel
theorem dX10_drought_2 : decode cX10_drought 2 = .ok (.ldc 155, 2) := by decide +kernel
theorem dX10_drought_4 : decode cX10_drought 4 = .ok (.invokestatic 93, 3) := by decide +kernel
theorem dX10_drought_7 : decode cX10_drought 7 = .ok (.ifCond .eq 16, 3) := by decide +kernel
theorem dX10_drought_10 : decode cX10_drought 10 = .ok (.iload_n 3, 1) := by decide +kernel
theorem dX10_drought_11 : decode cX10_drought 11 = .ok (.iconst 0, 1) := by decide +kernel
theorem dX10_drought_12 : decode cX10_drought 12 = .ok (.iload_n 2, 1) := by decide +kernel
theorem dX10_drought_13 : decode cX10_drought 13 = .ok (.invokestatic 93, 3) := by decide +kernel
theorem dX10_drought_16 : decode cX10_drought 16 = .ok (.ifCond .eq 7, 3) := by decide +kernel
theorem dX10_drought_19 : decode cX10_drought 19 = .ok (.iconst 1, 1) := by decide +kernel
theorem dX10_drought_20 : decode cX10_drought 20 = .ok (.goto 4, 3) := by decide +kernel
theorem dX10_drought_23 : decode cX10_drought 23 = .ok (.iconst 0, 1) := by decide +kernel
theorem dX10_drought_24 : decode cX10_drought 24 = .ok (.istore 4, 2) := by decide +kernel
theorem dX10_drought_26 : decode cX10_drought 26 = .ok (.aload_n 0, 1) := by decide +kernel
theorem dX10_drought_27 : decode cX10_drought 27 = .ok (.iload_n 1, 1) := by decide +kernel
theorem dX10_drought_28 : decode cX10_drought 28 = .ok (.invokestatic 103, 3) := by decide +kernel
theorem dX10_drought_31 : decode cX10_drought 31 = .ok (.ifCond .ne 7, 3) := by decide +kernel
theorem dX10_drought_34 : decode cX10_drought 34 = .ok (.iconst 1, 1) := by decide +kernel
theorem dX10_drought_35 : decode cX10_drought 35 = .ok (.goto 13, 3) := by decide +kernel
theorem dX10_drought_38 : decode cX10_drought 38 = .ok (.iload 4, 2) := by decide +kernel
theorem dX10_drought_40 : decode cX10_drought 40 = .ok (.ifCond .eq 7, 3) := by decide +kernel
theorem dX10_drought_43 : decode cX10_drought 43 = .ok (.iconst 0, 1) := by decide +kernel
theorem dX10_drought_44 : decode cX10_drought 44 = .ok (.goto 4, 3) := by decide +kernel
theorem dX10_drought_47 : decode cX10_drought 47 = .ok (.iconst 2, 1) := by decide +kernel
theorem dX10_drought_48 : decode cX10_drought 48 = .ok (.invokevirtual 107, 3) := by decide +kernel
theorem dX10_drought_51 : decode cX10_drought 51 = .ok (.ifCond .eq 18, 3) := by decide +kernel
theorem dX10_drought_54 : decode cX10_drought 54 = .ok (.aload_n 0, 1) := by decide +kernel
theorem dX10_drought_55 : decode cX10_drought 55 = .ok (.iload_n 1, 1) := by decide +kernel
theorem dX10_drought_56 : decode cX10_drought 56 = .ok (.putfield 156, 3) := by decide +kernel
theorem dX10_drought_59 : decode cX10_drought 59 = .ok (.aload_n 0, 1) := by decide +kernel
theorem dX10_drought_60 : decode cX10_drought 60 = .ok (.iload_n 2, 1) := by decide +kernel
theorem dX10_drought_61 : decode cX10_drought 61 = .ok (.putfield 159, 3) := by decide +kernel
theorem dX10_drought_64 : decode cX10_drought 64 = .ok (.aload_n 0, 1) := by decide +kernel
theorem dX10_drought_65 : decode cX10_drought 65 = .ok (.iload_n 3, 1) := by decide +kernel
theorem dX10_drought_66 : decode cX10_drought 66 = .ok (.putfield 162, 3) := by decide +kernel
theorem dX10_drought_69 : decode cX10_drought 69 = .ok (.return_, 1) := by decide +kernel
theorem dX10_share_0 : decode cX10_share 0 = .ok (.aload_n 0, 1) := by decide +kernel
theorem dX10_share_1 : decode cX10_share 1 = .ok (.iload_n 1, 1) := by decide +kernel
theorem dX10_share_2 : decode cX10_share 2 = .ok (.iconst 0, 1) := by decide +kernel
theorem dX10_share_3 : decode cX10_share 3 = .ok (.bipush 100, 2) := by decide +kernel
theorem dX10_share_5 : decode cX10_share 5 = .ok (.invokestatic 93, 3) := by decide +kernel
theorem dX10_share_8 : decode cX10_share 8 = .ok (.ifCond .eq 7, 3) := by decide +kernel
theorem dX10_share_11 : decode cX10_share 11 = .ok (.iconst 0, 1) := by decide +kernel
theorem dX10_share_12 : decode cX10_share 12 = .ok (.goto 4, 3) := by decide +kernel
theorem dX10_share_15 : decode cX10_share 15 = .ok (.iconst 1, 1) := by decide +kernel
theorem dX10_share_16 : decode cX10_share 16 = .ok (.invokevirtual 107, 3) := by decide +kernel
theorem dX10_share_19 : decode cX10_share 19 = .ok (.ifCond .ne 5, 3) := by decide +kernel
theorem dX10_share_22 : decode cX10_share 22 = .ok (.iconst 0, 1) := by decide +kernel
theorem dX10_share_23 : decode cX10_share 23 = .ok (.ireturn, 1) := by decide +kernel
theorem dX10_share_24 : decode cX10_share 24 = .ok (.aload_n 0, 1) := by decide +kernel
theorem dX10_share_25 : decode cX10_share 25 = .ok (.getfield 67, 3) := by decide +kernel
theorem dX10_share_28 : decode cX10_share 28 = .ok (.istore_n 2, 1) := by decide +kernel
theorem dX10_share_29 : decode cX10_share 29 = .ok (.aload_n 0, 1) := by decide +kernel
theorem dX10_share_30 : decode cX10_share 30 = .ok (.iload_n 1, 1) := by decide +kernel
theorem dX10_share_31 : decode cX10_share 31 = .ok (.putfield 67, 3) := by decide +kernel
theorem dX10_share_34 : decode cX10_share 34 = .ok (.iload_n 2, 1) := by decide +kernel
theorem dX10_share_35 : decode cX10_share 35 = .ok (.ireturn, 1) := by decide +kernel
theorem dX10_may_0 : decode cX10_may 0 = .ok (.aload_n 0, 1) := by decide +kernel
theorem dX10_may_1 : decode cX10_may 1 = .ok (.getfield 34, 3) := by decide +kernel
theorem dX10_may_4 : decode cX10_may 4 = .ok (.aload_n 0, 1) := by decide +kernel
theorem dX10_may_5 : decode cX10_may 5 = .ok (.getfield 156, 3) := by decide +kernel
theorem dX10_may_8 : decode cX10_may 8 = .ok (.iaload, 1) := by decide +kernel
theorem dX10_may_9 : decode cX10_may 9 = .ok (.istore_n 2, 1) := by decide +kernel
theorem dX10_may_10 : decode cX10_may 10 = .ok (.iload_n 2, 1) := by decide +kernel
theorem dX10_may_11 : decode cX10_may 11 = .ok (.aload_n 0, 1) := by decide +kernel
theorem dX10_may_12 : decode cX10_may 12 = .ok (.getfield 162, 3) := by decide +kernel
theorem dX10_may_15 : decode cX10_may 15 = .ok (.if_icmp .ge 7, 3) := by decide +kernel
theorem dX10_may_18 : decode cX10_may 18 = .ok (.iconst 0, 1) := by decide +kernel
theorem dX10_may_19 : decode cX10_may 19 = .ok (.goto 28, 3) := by decide +kernel
theorem dX10_may_22 : decode cX10_may 22 = .ok (.iload_n 2, 1) := by decide +kernel
theorem dX10_may_23 : decode cX10_may 23 = .ok (.aload_n 0, 1) := by decide +kernel
theorem dX10_may_24 : decode cX10_may 24 = .ok (.getfield 159, 3) := by decide +kernel
theorem dX10_may_27 : decode cX10_may 27 = .ok (.if_icmp .ge 14, 3) := by decide +kernel
theorem dX10_may_30 : decode cX10_may 30 = .ok (.aload_n 0, 1) := by decide +kernel
theorem dX10_may_31 : decode cX10_may 31 = .ok (.getfield 61, 3) := by decide +kernel
theorem dX10_may_34 : decode cX10_may 34 = .ok (.iload_n 1, 1) := by decide +kernel
theorem dX10_may_35 : decode cX10_may 35 = .ok (.iaload, 1) := by decide +kernel
theorem dX10_may_36 : decode cX10_may 36 = .ok (.iconst 2, 1) := by decide +kernel
theorem dX10_may_37 : decode cX10_may 37 = .ok (.idiv, 1) := by decide +kernel
theorem dX10_may_38 : decode cX10_may 38 = .ok (.goto 9, 3) := by decide +kernel
theorem dX10_may_41 : decode cX10_may 41 = .ok (.aload_n 0, 1) := by decide +kernel
theorem dX10_may_42 : decode cX10_may 42 = .ok (.getfield 61, 3) := by decide +kernel
theorem dX10_may_45 : decode cX10_may 45 = .ok (.iload_n 1, 1) := by decide +kernel
theorem dX10_may_46 : decode cX10_may 46 = .ok (.iaload, 1) := by decide +kernel
theorem dX10_may_47 : decode cX10_may 47 = .ok (.istore_n 3, 1) := by decide +kernel
theorem dX10_may_48 : decode cX10_may 48 = .ok (.iload_n 3, 1) := by decide +kernel
theorem dX10_may_49 : decode cX10_may 49 = .ok (.aload_n 0, 1) := by decide +kernel
theorem dX10_may_50 : decode cX10_may 50 = .ok (.getfield 64, 3) := by decide +kernel
theorem dX10_may_53 : decode cX10_may 53 = .ok (.iload_n 1, 1) := by decide +kernel
theorem dX10_may_54 : decode cX10_may 54 = .ok (.iaload, 1) := by decide +kernel
theorem dX10_may_55 : decode cX10_may 55 = .ok (.if_icmp .le 14, 3) := by decide +kernel
theorem dX10_may_58 : decode cX10_may 58 = .ok (.iload_n 3, 1) := by decide +kernel
theorem dX10_may_59 : decode cX10_may 59 = .ok (.aload_n 0, 1) := by decide +kernel
theorem dX10_may_60 : decode cX10_may 60 = .ok (.getfield 64, 3) := by decide +kernel
theorem dX10_may_63 : decode cX10_may 63 = .ok (.iload_n 1, 1) := by decide +kernel
theorem dX10_may_64 : decode cX10_may 64 = .ok (.iaload, 1) := by decide +kernel
theorem dX10_may_65 : decode cX10_may 65 = .ok (.isub, 1) := by decide +kernel
theorem dX10_may_66 : decode cX10_may 66 = .ok (.goto 4, 3) := by decide +kernel
theorem dX10_may_69 : decode cX10_may 69 = .ok (.iconst 0, 1) := by decide +kernel
theorem dX10_may_70 : decode cX10_may 70 = .ok (.ireturn, 1) := by decide +kernel
theorem dX10_bottle_0 : decode cX10_bottle 0 = .ok (.aload_n 0, 1) := by decide +kernel
theorem dX10_bottle_1 : decode cX10_bottle 1 = .ok (.iload_n 1, 1) := by decide +kernel
theorem dX10_bottle_2 : decode cX10_bottle 2 = .ok (.invokevirtual 165, 3) := by decide +kernel
theorem dX10_bottle_5 : decode cX10_bottle 5 = .ok (.istore_n 3, 1) := by decide +kernel
theorem dX10_bottle_6 : decode cX10_bottle 6 = .ok (.iload_n 2, 1) := by decide +kernel
theorem dX10_bottle_7 : decode cX10_bottle 7 = .ok (.iconst 1, 1) := by decide +kernel
theorem dX10_bottle_8 : decode cX10_bottle 8 = .ok (.sipush 1000, 3) := by decide +kernel
theorem dX10_bottle_11 : decode cX10_bottle 11 = .ok (.invokestatic 93, 3) := by decide +kernel
theorem dX10_bottle_14 : decode cX10_bottle 14 = .ok (.istore 4, 2) := by decide +kernel
theorem dX10_bottle_16 : decode cX10_bottle 16 = .ok (.aload_n 0, 1) := by decide +kernel
theorem dX10_bottle_17 : decode cX10_bottle 17 = .ok (.iload_n 3, 1) := by decide +kernel
theorem dX10_bottle_18 : decode cX10_bottle 18 = .ok (.ifCond .ne 7, 3) := by decide +kernel
theorem dX10_bottle_21 : decode cX10_bottle 21 = .ok (.iconst 1, 1) := by decide +kernel
theorem dX10_bottle_22 : decode cX10_bottle 22 = .ok (.goto 50, 3) := by decide +kernel
theorem dX10_bottle_25 : decode cX10_bottle 25 = .ok (.iload 4, 2) := by decide +kernel
theorem dX10_bottle_27 : decode cX10_bottle 27 = .ok (.ifCond .ne 7, 3) := by decide +kernel
theorem dX10_bottle_30 : decode cX10_bottle 30 = .ok (.iconst 2, 1) := by decide +kernel
theorem dX10_bottle_31 : decode cX10_bottle 31 = .ok (.goto 41, 3) := by decide +kernel
theorem dX10_bottle_34 : decode cX10_bottle 34 = .ok (.iload_n 2, 1) := by decide +kernel
theorem dX10_bottle_35 : decode cX10_bottle 35 = .ok (.aload_n 0, 1) := by decide +kernel
theorem dX10_bottle_36 : decode cX10_bottle 36 = .ok (.iload_n 1, 1) := by decide +kernel
theorem dX10_bottle_37 : decode cX10_bottle 37 = .ok (.invokevirtual 168, 3) := by decide +kernel
theorem dX10_bottle_40 : decode cX10_bottle 40 = .ok (.if_icmp .gt 27, 3) := by decide +kernel
theorem dX10_bottle_43 : decode cX10_bottle 43 = .ok (.iload_n 2, 1) := by decide +kernel
theorem dX10_bottle_44 : decode cX10_bottle 44 = .ok (.aload_n 0, 1) := by decide +kernel
theorem dX10_bottle_45 : decode cX10_bottle 45 = .ok (.getfield 34, 3) := by decide +kernel
theorem dX10_bottle_48 : decode cX10_bottle 48 = .ok (.aload_n 0, 1) := by decide +kernel
theorem dX10_bottle_49 : decode cX10_bottle 49 = .ok (.getfield 58, 3) := by decide +kernel
theorem dX10_bottle_52 : decode cX10_bottle 52 = .ok (.iload_n 1, 1) := by decide +kernel
theorem dX10_bottle_53 : decode cX10_bottle 53 = .ok (.iaload, 1) := by decide +kernel
theorem dX10_bottle_54 : decode cX10_bottle 54 = .ok (.iaload, 1) := by decide +kernel
theorem dX10_bottle_55 : decode cX10_bottle 55 = .ok (.if_icmp .gt 12, 3) := by decide +kernel
theorem dX10_bottle_58 : decode cX10_bottle 58 = .ok (.aload_n 0, 1) := by decide +kernel
theorem dX10_bottle_59 : decode cX10_bottle 59 = .ok (.getfield 100, 3) := by decide +kernel
theorem dX10_bottle_62 : decode cX10_bottle 62 = .ok (.bipush 40, 2) := by decide +kernel
theorem dX10_bottle_64 : decode cX10_bottle 64 = .ok (.if_icmp .ne 7, 3) := by decide +kernel
theorem dX10_bottle_67 : decode cX10_bottle 67 = .ok (.iconst 3, 1) := by decide +kernel
theorem dX10_bottle_68 : decode cX10_bottle 68 = .ok (.goto 4, 3) := by decide +kernel
theorem dX10_bottle_71 : decode cX10_bottle 71 = .ok (.iconst 0, 1) := by decide +kernel
theorem dX10_bottle_72 : decode cX10_bottle 72 = .ok (.invokevirtual 107, 3) := by decide +kernel
theorem dX10_bottle_75 : decode cX10_bottle 75 = .ok (.ifCond .ne 5, 3) := by decide +kernel
theorem dX10_bottle_78 : decode cX10_bottle 78 = .ok (.iconst 0, 1) := by decide +kernel
theorem dX10_bottle_79 : decode cX10_bottle 79 = .ok (.ireturn, 1) := by decide +kernel
theorem dX10_bottle_80 : decode cX10_bottle 80 = .ok (.aload_n 0, 1) := by decide +kernel
theorem dX10_bottle_81 : decode cX10_bottle 81 = .ok (.aload_n 0, 1) := by decide +kernel
theorem dX10_bottle_82 : decode cX10_bottle 82 = .ok (.getfield 58, 3) := by decide +kernel
theorem dX10_bottle_85 : decode cX10_bottle 85 = .ok (.iload_n 1, 1) := by decide +kernel
theorem dX10_bottle_86 : decode cX10_bottle 86 = .ok (.iaload, 1) := by decide +kernel
theorem dX10_bottle_87 : decode cX10_bottle 87 = .ok (.aload_n 0, 1) := by decide +kernel
theorem dX10_bottle_88 : decode cX10_bottle 88 = .ok (.getfield 100, 3) := by decide +kernel
theorem dX10_bottle_91 : decode cX10_bottle 91 = .ok (.invokestatic 171, 3) := by decide +kernel
theorem dX10_bottle_94 : decode cX10_bottle 94 = .ok (.iload_n 2, 1) := by decide +kernel
theorem dX10_bottle_95 : decode cX10_bottle 95 = .ok (.invokevirtual 138, 3) := by decide +kernel
theorem dX10_bottle_98 : decode cX10_bottle 98 = .ok (.aload_n 0, 1) := by decide +kernel
theorem dX10_bottle_99 : decode cX10_bottle 99 = .ok (.getfield 64, 3) := by decide +kernel
theorem dX10_bottle_102 : decode cX10_bottle 102 = .ok (.iload_n 1, 1) := by decide +kernel
theorem dX10_bottle_103 : decode cX10_bottle 103 = .ok (.dup2, 1) := by decide +kernel
theorem dX10_bottle_104 : decode cX10_bottle 104 = .ok (.iaload, 1) := by decide +kernel
theorem dX10_bottle_105 : decode cX10_bottle 105 = .ok (.iload_n 2, 1) := by decide +kernel
theorem dX10_bottle_106 : decode cX10_bottle 106 = .ok (.iadd, 1) := by decide +kernel
theorem dX10_bottle_107 : decode cX10_bottle 107 = .ok (.iastore, 1) := by decide +kernel
theorem dX10_bottle_108 : decode cX10_bottle 108 = .ok (.aload_n 0, 1) := by decide +kernel
theorem dX10_bottle_109 : decode cX10_bottle 109 = .ok (.dup, 1) := by decide +kernel
theorem dX10_bottle_110 : decode cX10_bottle 110 = .ok (.getfield 174, 3) := by decide +kernel
theorem dX10_bottle_113 : decode cX10_bottle 113 = .ok (.iload_n 2, 1) := by decide +kernel
theorem dX10_bottle_114 : decode cX10_bottle 114 = .ok (.i2l, 1) := by decide +kernel
theorem dX10_bottle_115 : decode cX10_bottle 115 = .ok (.ladd, 1) := by decide +kernel
theorem dX10_bottle_116 : decode cX10_bottle 116 = .ok (.putfield 174, 3) := by decide +kernel
theorem dX10_bottle_119 : decode cX10_bottle 119 = .ok (.aload_n 0, 1) := by decide +kernel
theorem dX10_bottle_120 : decode cX10_bottle 120 = .ok (.dup, 1) := by decide +kernel
theorem dX10_bottle_121 : decode cX10_bottle 121 = .ok (.getfield 177, 3) := by decide +kernel
theorem dX10_bottle_124 : decode cX10_bottle 124 = .ok (.aload_n 0, 1) := by decide +kernel
theorem dX10_bottle_125 : decode cX10_bottle 125 = .ok (.getfield 67, 3) := by decide +kernel
theorem dX10_bottle_128 : decode cX10_bottle 128 = .ok (.i2l, 1) := by decide +kernel
theorem dX10_bottle_129 : decode cX10_bottle 129 = .ok (.iload_n 2, 1) := by decide +kernel
theorem dX10_bottle_130 : decode cX10_bottle 130 = .ok (.i2l, 1) := by decide +kernel
theorem dX10_bottle_131 : decode cX10_bottle 131 = .ok (.lmul, 1) := by decide +kernel
theorem dX10_bottle_132 : decode cX10_bottle 132 = .ok (.ladd, 1) := by decide +kernel
theorem dX10_bottle_133 : decode cX10_bottle 133 = .ok (.putfield 177, 3) := by decide +kernel
theorem dX10_bottle_136 : decode cX10_bottle 136 = .ok (.aload_n 0, 1) := by decide +kernel
theorem dX10_bottle_137 : decode cX10_bottle 137 = .ok (.getfield 71, 3) := by decide +kernel
theorem dX10_bottle_140 : decode cX10_bottle 140 = .ok (.aload_n 0, 1) := by decide +kernel
theorem dX10_bottle_141 : decode cX10_bottle 141 = .ok (.getfield 100, 3) := by decide +kernel
theorem dX10_bottle_144 : decode cX10_bottle 144 = .ok (.iload_n 1, 1) := by decide +kernel
theorem dX10_bottle_145 : decode cX10_bottle 145 = .ok (.iastore, 1) := by decide +kernel
theorem dX10_bottle_146 : decode cX10_bottle 146 = .ok (.aload_n 0, 1) := by decide +kernel
theorem dX10_bottle_147 : decode cX10_bottle 147 = .ok (.getfield 74, 3) := by decide +kernel
theorem dX10_bottle_150 : decode cX10_bottle 150 = .ok (.aload_n 0, 1) := by decide +kernel
theorem dX10_bottle_151 : decode cX10_bottle 151 = .ok (.getfield 100, 3) := by decide +kernel
theorem dX10_bottle_154 : decode cX10_bottle 154 = .ok (.aload_n 0, 1) := by decide +kernel
theorem dX10_bottle_155 : decode cX10_bottle 155 = .ok (.getfield 131, 3) := by decide +kernel
theorem dX10_bottle_158 : decode cX10_bottle 158 = .ok (.iastore, 1) := by decide +kernel
theorem dX10_bottle_159 : decode cX10_bottle 159 = .ok (.aload_n 0, 1) := by decide +kernel
theorem dX10_bottle_160 : decode cX10_bottle 160 = .ok (.getfield 77, 3) := by decide +kernel
theorem dX10_bottle_163 : decode cX10_bottle 163 = .ok (.aload_n 0, 1) := by decide +kernel
theorem dX10_bottle_164 : decode cX10_bottle 164 = .ok (.getfield 100, 3) := by decide +kernel
theorem dX10_bottle_167 : decode cX10_bottle 167 = .ok (.iconst 0, 1) := by decide +kernel
theorem dX10_bottle_168 : decode cX10_bottle 168 = .ok (.iastore, 1) := by decide +kernel
theorem dX10_bottle_169 : decode cX10_bottle 169 = .ok (.aload_n 0, 1) := by decide +kernel
theorem dX10_bottle_170 : decode cX10_bottle 170 = .ok (.getfield 80, 3) := by decide +kernel
theorem dX10_bottle_173 : decode cX10_bottle 173 = .ok (.aload_n 0, 1) := by decide +kernel
theorem dX10_bottle_174 : decode cX10_bottle 174 = .ok (.getfield 100, 3) := by decide +kernel
theorem dX10_bottle_177 : decode cX10_bottle 177 = .ok (.iconst (-1), 1) := by decide +kernel
theorem dX10_bottle_178 : decode cX10_bottle 178 = .ok (.iastore, 1) := by decide +kernel
theorem dX10_bottle_179 : decode cX10_bottle 179 = .ok (.aload_n 0, 1) := by decide +kernel
theorem dX10_bottle_180 : decode cX10_bottle 180 = .ok (.dup, 1) := by decide +kernel
theorem dX10_bottle_181 : decode cX10_bottle 181 = .ok (.getfield 100, 3) := by decide +kernel
theorem dX10_bottle_184 : decode cX10_bottle 184 = .ok (.iconst 1, 1) := by decide +kernel
theorem dX10_bottle_185 : decode cX10_bottle 185 = .ok (.iadd, 1) := by decide +kernel
theorem dX10_bottle_186 : decode cX10_bottle 186 = .ok (.putfield 100, 3) := by decide +kernel
theorem dX10_bottle_189 : decode cX10_bottle 189 = .ok (.aload_n 0, 1) := by decide +kernel
theorem dX10_bottle_190 : decode cX10_bottle 190 = .ok (.getfield 100, 3) := by decide +kernel
theorem dX10_bottle_193 : decode cX10_bottle 193 = .ok (.iconst 1, 1) := by decide +kernel
theorem dX10_bottle_194 : decode cX10_bottle 194 = .ok (.isub, 1) := by decide +kernel
theorem dX10_bottle_195 : decode cX10_bottle 195 = .ok (.ireturn, 1) := by decide +kernel
theorem dX10_treat_0 : decode cX10_treat 0 = .ok (.aload_n 0, 1) := by decide +kernel
theorem dX10_treat_1 : decode cX10_treat 1 = .ok (.iload_n 1, 1) := by decide +kernel
theorem dX10_treat_2 : decode cX10_treat 2 = .ok (.invokevirtual 180, 3) := by decide +kernel
theorem dX10_treat_5 : decode cX10_treat 5 = .ok (.ifCond .eq 16, 3) := by decide +kernel
theorem dX10_treat_8 : decode cX10_treat 8 = .ok (.iload_n 2, 1) := by decide +kernel
theorem dX10_treat_9 : decode cX10_treat 9 = .ok (.iconst 0, 1) := by decide +kernel
theorem dX10_treat_10 : decode cX10_treat 10 = .ok (.iconst 5, 1) := by decide +kernel
theorem dX10_treat_11 : decode cX10_treat 11 = .ok (.invokestatic 93, 3) := by decide +kernel
theorem dX10_treat_14 : decode cX10_treat 14 = .ok (.ifCond .eq 7, 3) := by decide +kernel
theorem dX10_treat_17 : decode cX10_treat 17 = .ok (.iconst 1, 1) := by decide +kernel
theorem dX10_treat_18 : decode cX10_treat 18 = .ok (.goto 4, 3) := by decide +kernel
theorem dX10_treat_21 : decode cX10_treat 21 = .ok (.iconst 0, 1) := by decide +kernel
theorem dX10_treat_22 : decode cX10_treat 22 = .ok (.istore_n 3, 1) := by decide +kernel
theorem dX10_treat_23 : decode cX10_treat 23 = .ok (.aload_n 0, 1) := by decide +kernel
theorem dX10_treat_24 : decode cX10_treat 24 = .ok (.iload_n 3, 1) := by decide +kernel
theorem dX10_treat_25 : decode cX10_treat 25 = .ok (.ifCond .ne 7, 3) := by decide +kernel
theorem dX10_treat_28 : decode cX10_treat 28 = .ok (.iconst 1, 1) := by decide +kernel
theorem dX10_treat_29 : decode cX10_treat 29 = .ok (.goto 18, 3) := by decide +kernel
theorem dX10_treat_32 : decode cX10_treat 32 = .ok (.aload_n 0, 1) := by decide +kernel
theorem dX10_treat_33 : decode cX10_treat 33 = .ok (.getfield 80, 3) := by decide +kernel
theorem dX10_treat_36 : decode cX10_treat 36 = .ok (.iload_n 1, 1) := by decide +kernel
theorem dX10_treat_37 : decode cX10_treat 37 = .ok (.iaload, 1) := by decide +kernel
theorem dX10_treat_38 : decode cX10_treat 38 = .ok (.iconst (-1), 1) := by decide +kernel
theorem dX10_treat_39 : decode cX10_treat 39 = .ok (.if_icmp .ne 7, 3) := by decide +kernel
theorem dX10_treat_42 : decode cX10_treat 42 = .ok (.iconst 0, 1) := by decide +kernel
theorem dX10_treat_43 : decode cX10_treat 43 = .ok (.goto 4, 3) := by decide +kernel
theorem dX10_treat_46 : decode cX10_treat 46 = .ok (.iconst 2, 1) := by decide +kernel
theorem dX10_treat_47 : decode cX10_treat 47 = .ok (.invokevirtual 107, 3) := by decide +kernel
theorem dX10_treat_50 : decode cX10_treat 50 = .ok (.ifCond .ne 5, 3) := by decide +kernel
theorem dX10_treat_53 : decode cX10_treat 53 = .ok (.iconst 0, 1) := by decide +kernel
theorem dX10_treat_54 : decode cX10_treat 54 = .ok (.ireturn, 1) := by decide +kernel
theorem dX10_treat_55 : decode cX10_treat 55 = .ok (.aload_n 0, 1) := by decide +kernel
theorem dX10_treat_56 : decode cX10_treat 56 = .ok (.getfield 77, 3) := by decide +kernel
theorem dX10_treat_59 : decode cX10_treat 59 = .ok (.iload_n 1, 1) := by decide +kernel
theorem dX10_treat_60 : decode cX10_treat 60 = .ok (.dup2, 1) := by decide +kernel
theorem dX10_treat_61 : decode cX10_treat 61 = .ok (.iaload, 1) := by decide +kernel
theorem dX10_treat_62 : decode cX10_treat 62 = .ok (.iconst 1, 1) := by decide +kernel
theorem dX10_treat_63 : decode cX10_treat 63 = .ok (.iload_n 2, 1) := by decide +kernel
theorem dX10_treat_64 : decode cX10_treat 64 = .ok (.ishl, 1) := by decide +kernel
theorem dX10_treat_65 : decode cX10_treat 65 = .ok (.ior, 1) := by decide +kernel
theorem dX10_treat_66 : decode cX10_treat 66 = .ok (.iastore, 1) := by decide +kernel
theorem dX10_treat_67 : decode cX10_treat 67 = .ok (.aload_n 0, 1) := by decide +kernel
theorem dX10_treat_68 : decode cX10_treat 68 = .ok (.getfield 77, 3) := by decide +kernel
theorem dX10_treat_71 : decode cX10_treat 71 = .ok (.iload_n 1, 1) := by decide +kernel
theorem dX10_treat_72 : decode cX10_treat 72 = .ok (.iaload, 1) := by decide +kernel
theorem dX10_treat_73 : decode cX10_treat 73 = .ok (.ireturn, 1) := by decide +kernel
theorem dX10_nitrateOf_0 : decode cX10_nitrateOf 0 = .ok (.lconst 0, 1) := by decide +kernel
theorem dX10_nitrateOf_1 : decode cX10_nitrateOf 1 = .ok (.lstore_n 2, 1) := by decide +kernel
theorem dX10_nitrateOf_2 : decode cX10_nitrateOf 2 = .ok (.aload_n 0, 1) := by decide +kernel
theorem dX10_nitrateOf_3 : decode cX10_nitrateOf 3 = .ok (.getfield 28, 3) := by decide +kernel
theorem dX10_nitrateOf_6 : decode cX10_nitrateOf 6 = .ok (.iload_n 1, 1) := by decide +kernel
theorem dX10_nitrateOf_7 : decode cX10_nitrateOf 7 = .ok (.iaload, 1) := by decide +kernel
theorem dX10_nitrateOf_8 : decode cX10_nitrateOf 8 = .ok (.istore 4, 2) := by decide +kernel
theorem dX10_nitrateOf_10 : decode cX10_nitrateOf 10 = .ok (.iload 4, 2) := by decide +kernel
theorem dX10_nitrateOf_12 : decode cX10_nitrateOf 12 = .ok (.iconst (-1), 1) := by decide +kernel
theorem dX10_nitrateOf_13 : decode cX10_nitrateOf 13 = .ok (.if_icmp .eq 35, 3) := by decide +kernel
theorem dX10_nitrateOf_16 : decode cX10_nitrateOf 16 = .ok (.lload_n 2, 1) := by decide +kernel
theorem dX10_nitrateOf_17 : decode cX10_nitrateOf 17 = .ok (.aload_n 0, 1) := by decide +kernel
theorem dX10_nitrateOf_18 : decode cX10_nitrateOf 18 = .ok (.getfield 40, 3) := by decide +kernel
theorem dX10_nitrateOf_21 : decode cX10_nitrateOf 21 = .ok (.iload 4, 2) := by decide +kernel
theorem dX10_nitrateOf_23 : decode cX10_nitrateOf 23 = .ok (.iaload, 1) := by decide +kernel
theorem dX10_nitrateOf_24 : decode cX10_nitrateOf 24 = .ok (.i2l, 1) := by decide +kernel
theorem dX10_nitrateOf_25 : decode cX10_nitrateOf 25 = .ok (.aload_n 0, 1) := by decide +kernel
theorem dX10_nitrateOf_26 : decode cX10_nitrateOf 26 = .ok (.getfield 49, 3) := by decide +kernel
theorem dX10_nitrateOf_29 : decode cX10_nitrateOf 29 = .ok (.iload 4, 2) := by decide +kernel
theorem dX10_nitrateOf_31 : decode cX10_nitrateOf 31 = .ok (.iaload, 1) := by decide +kernel
theorem dX10_nitrateOf_32 : decode cX10_nitrateOf 32 = .ok (.i2l, 1) := by decide +kernel
theorem dX10_nitrateOf_33 : decode cX10_nitrateOf 33 = .ok (.lmul, 1) := by decide +kernel
theorem dX10_nitrateOf_34 : decode cX10_nitrateOf 34 = .ok (.ladd, 1) := by decide +kernel
theorem dX10_nitrateOf_35 : decode cX10_nitrateOf 35 = .ok (.lstore_n 2, 1) := by decide +kernel
theorem dX10_nitrateOf_36 : decode cX10_nitrateOf 36 = .ok (.aload_n 0, 1) := by decide +kernel
theorem dX10_nitrateOf_37 : decode cX10_nitrateOf 37 = .ok (.getfield 37, 3) := by decide +kernel
theorem dX10_nitrateOf_40 : decode cX10_nitrateOf 40 = .ok (.iload 4, 2) := by decide +kernel
theorem dX10_nitrateOf_42 : decode cX10_nitrateOf 42 = .ok (.iaload, 1) := by decide +kernel
theorem dX10_nitrateOf_43 : decode cX10_nitrateOf 43 = .ok (.istore 4, 2) := by decide +kernel
theorem dX10_nitrateOf_45 : decode cX10_nitrateOf 45 = .ok (.goto (-35), 3) := by decide +kernel
theorem dX10_nitrateOf_48 : decode cX10_nitrateOf 48 = .ok (.lload_n 2, 1) := by decide +kernel
theorem dX10_nitrateOf_49 : decode cX10_nitrateOf 49 = .ok (.lreturn, 1) := by decide +kernel
theorem dX10_compoundsOf_0 : decode cX10_compoundsOf 0 = .ok (.iconst 0, 1) := by decide +kernel
theorem dX10_compoundsOf_1 : decode cX10_compoundsOf 1 = .ok (.istore_n 2, 1) := by decide +kernel
theorem dX10_compoundsOf_2 : decode cX10_compoundsOf 2 = .ok (.aload_n 0, 1) := by decide +kernel
theorem dX10_compoundsOf_3 : decode cX10_compoundsOf 3 = .ok (.getfield 28, 3) := by decide +kernel
theorem dX10_compoundsOf_6 : decode cX10_compoundsOf 6 = .ok (.iload_n 1, 1) := by decide +kernel
theorem dX10_compoundsOf_7 : decode cX10_compoundsOf 7 = .ok (.iaload, 1) := by decide +kernel
theorem dX10_compoundsOf_8 : decode cX10_compoundsOf 8 = .ok (.istore_n 3, 1) := by decide +kernel
theorem dX10_compoundsOf_9 : decode cX10_compoundsOf 9 = .ok (.iload_n 3, 1) := by decide +kernel
theorem dX10_compoundsOf_10 : decode cX10_compoundsOf 10 = .ok (.iconst (-1), 1) := by decide +kernel
theorem dX10_compoundsOf_11 : decode cX10_compoundsOf 11 = .ok (.if_icmp .eq 22, 3) := by decide +kernel
theorem dX10_compoundsOf_14 : decode cX10_compoundsOf 14 = .ok (.iload_n 2, 1) := by decide +kernel
theorem dX10_compoundsOf_15 : decode cX10_compoundsOf 15 = .ok (.aload_n 0, 1) := by decide +kernel
theorem dX10_compoundsOf_16 : decode cX10_compoundsOf 16 = .ok (.getfield 52, 3) := by decide +kernel
theorem dX10_compoundsOf_19 : decode cX10_compoundsOf 19 = .ok (.iload_n 3, 1) := by decide +kernel
theorem dX10_compoundsOf_20 : decode cX10_compoundsOf 20 = .ok (.iaload, 1) := by decide +kernel
theorem dX10_compoundsOf_21 : decode cX10_compoundsOf 21 = .ok (.ior, 1) := by decide +kernel
theorem dX10_compoundsOf_22 : decode cX10_compoundsOf 22 = .ok (.istore_n 2, 1) := by decide +kernel
theorem dX10_compoundsOf_23 : decode cX10_compoundsOf 23 = .ok (.aload_n 0, 1) := by decide +kernel
theorem dX10_compoundsOf_24 : decode cX10_compoundsOf 24 = .ok (.getfield 37, 3) := by decide +kernel
theorem dX10_compoundsOf_27 : decode cX10_compoundsOf 27 = .ok (.iload_n 3, 1) := by decide +kernel
theorem dX10_compoundsOf_28 : decode cX10_compoundsOf 28 = .ok (.iaload, 1) := by decide +kernel
theorem dX10_compoundsOf_29 : decode cX10_compoundsOf 29 = .ok (.istore_n 3, 1) := by decide +kernel
theorem dX10_compoundsOf_30 : decode cX10_compoundsOf 30 = .ok (.goto (-21), 3) := by decide +kernel
theorem dX10_compoundsOf_33 : decode cX10_compoundsOf 33 = .ok (.iload_n 2, 1) := by decide +kernel
theorem dX10_compoundsOf_34 : decode cX10_compoundsOf 34 = .ok (.ireturn, 1) := by decide +kernel
theorem dX10_fallOf_0 : decode cX10_fallOf 0 = .ok (.iconst (-1), 1) := by decide +kernel
theorem dX10_fallOf_1 : decode cX10_fallOf 1 = .ok (.istore_n 3, 1) := by decide +kernel
theorem dX10_fallOf_2 : decode cX10_fallOf 2 = .ok (.aload_n 0, 1) := by decide +kernel
theorem dX10_fallOf_3 : decode cX10_fallOf 3 = .ok (.getfield 28, 3) := by decide +kernel
theorem dX10_fallOf_6 : decode cX10_fallOf 6 = .ok (.iload_n 1, 1) := by decide +kernel
theorem dX10_fallOf_7 : decode cX10_fallOf 7 = .ok (.iaload, 1) := by decide +kernel
theorem dX10_fallOf_8 : decode cX10_fallOf 8 = .ok (.istore 4, 2) := by decide +kernel
theorem dX10_fallOf_10 : decode cX10_fallOf 10 = .ok (.iload 4, 2) := by decide +kernel
theorem dX10_fallOf_12 : decode cX10_fallOf 12 = .ok (.iconst (-1), 1) := by decide +kernel
theorem dX10_fallOf_13 : decode cX10_fallOf 13 = .ok (.if_icmp .eq 61, 3) := by decide +kernel
theorem dX10_fallOf_16 : decode cX10_fallOf 16 = .ok (.iload_n 3, 1) := by decide +kernel
theorem dX10_fallOf_17 : decode cX10_fallOf 17 = .ok (.iconst (-1), 1) := by decide +kernel
theorem dX10_fallOf_18 : decode cX10_fallOf 18 = .ok (.if_icmp .eq 32, 3) := by decide +kernel
theorem dX10_fallOf_21 : decode cX10_fallOf 21 = .ok (.iload_n 2, 1) := by decide +kernel
theorem dX10_fallOf_22 : decode cX10_fallOf 22 = .ok (.ifCond .eq 17, 3) := by decide +kernel
theorem dX10_fallOf_25 : decode cX10_fallOf 25 = .ok (.aload_n 0, 1) := by decide +kernel
theorem dX10_fallOf_26 : decode cX10_fallOf 26 = .ok (.getfield 46, 3) := by decide +kernel
theorem dX10_fallOf_29 : decode cX10_fallOf 29 = .ok (.iload 4, 2) := by decide +kernel
theorem dX10_fallOf_31 : decode cX10_fallOf 31 = .ok (.iaload, 1) := by decide +kernel
theorem dX10_fallOf_32 : decode cX10_fallOf 32 = .ok (.iload_n 3, 1) := by decide +kernel
theorem dX10_fallOf_33 : decode cX10_fallOf 33 = .ok (.if_icmp .le 27, 3) := by decide +kernel
theorem dX10_fallOf_36 : decode cX10_fallOf 36 = .ok (.goto 14, 3) := by decide +kernel
theorem dX10_fallOf_39 : decode cX10_fallOf 39 = .ok (.aload_n 0, 1) := by decide +kernel
theorem dX10_fallOf_40 : decode cX10_fallOf 40 = .ok (.getfield 46, 3) := by decide +kernel
theorem dX10_fallOf_43 : decode cX10_fallOf 43 = .ok (.iload 4, 2) := by decide +kernel
theorem dX10_fallOf_45 : decode cX10_fallOf 45 = .ok (.iaload, 1) := by decide +kernel
theorem dX10_fallOf_46 : decode cX10_fallOf 46 = .ok (.iload_n 3, 1) := by decide +kernel
theorem dX10_fallOf_47 : decode cX10_fallOf 47 = .ok (.if_icmp .ge 13, 3) := by decide +kernel
theorem dX10_fallOf_50 : decode cX10_fallOf 50 = .ok (.aload_n 0, 1) := by decide +kernel
theorem dX10_fallOf_51 : decode cX10_fallOf 51 = .ok (.getfield 46, 3) := by decide +kernel
theorem dX10_fallOf_54 : decode cX10_fallOf 54 = .ok (.iload 4, 2) := by decide +kernel
theorem dX10_fallOf_56 : decode cX10_fallOf 56 = .ok (.iaload, 1) := by decide +kernel
theorem dX10_fallOf_57 : decode cX10_fallOf 57 = .ok (.goto 4, 3) := by decide +kernel
theorem dX10_fallOf_60 : decode cX10_fallOf 60 = .ok (.iload_n 3, 1) := by decide +kernel
theorem dX10_fallOf_61 : decode cX10_fallOf 61 = .ok (.istore_n 3, 1) := by decide +kernel
theorem dX10_fallOf_62 : decode cX10_fallOf 62 = .ok (.aload_n 0, 1) := by decide +kernel
theorem dX10_fallOf_63 : decode cX10_fallOf 63 = .ok (.getfield 37, 3) := by decide +kernel
theorem dX10_fallOf_66 : decode cX10_fallOf 66 = .ok (.iload 4, 2) := by decide +kernel
theorem dX10_fallOf_68 : decode cX10_fallOf 68 = .ok (.iaload, 1) := by decide +kernel
theorem dX10_fallOf_69 : decode cX10_fallOf 69 = .ok (.istore 4, 2) := by decide +kernel
theorem dX10_fallOf_71 : decode cX10_fallOf 71 = .ok (.goto (-61), 3) := by decide +kernel
theorem dX10_fallOf_74 : decode cX10_fallOf 74 = .ok (.iload_n 3, 1) := by decide +kernel
theorem dX10_fallOf_75 : decode cX10_fallOf 75 = .ok (.ireturn, 1) := by decide +kernel
theorem dX10_isWater_0 : decode cX10_isWater 0 = .ok (.iload_n 1, 1) := by decide +kernel
theorem dX10_isWater_1 : decode cX10_isWater 1 = .ok (.invokestatic 171, 3) := by decide +kernel
theorem dX10_isWater_4 : decode cX10_isWater 4 = .ok (.istore_n 3, 1) := by decide +kernel
theorem dX10_isWater_5 : decode cX10_isWater 5 = .ok (.iload_n 2, 1) := by decide +kernel
theorem dX10_isWater_6 : decode cX10_isWater 6 = .ok (.ifCond .ne 7, 3) := by decide +kernel
theorem dX10_isWater_9 : decode cX10_isWater 9 = .ok (.iconst 1, 1) := by decide +kernel
theorem dX10_isWater_10 : decode cX10_isWater 10 = .ok (.goto 4, 3) := by decide +kernel
theorem dX10_isWater_13 : decode cX10_isWater 13 = .ok (.iconst 3, 1) := by decide +kernel
theorem dX10_isWater_14 : decode cX10_isWater 14 = .ok (.aload_n 0, 1) := by decide +kernel
theorem dX10_isWater_15 : decode cX10_isWater 15 = .ok (.getfield 183, 3) := by decide +kernel
theorem dX10_isWater_18 : decode cX10_isWater 18 = .ok (.iconst (-1), 1) := by decide +kernel
theorem dX10_isWater_19 : decode cX10_isWater 19 = .ok (.ixor, 1) := by decide +kernel
theorem dX10_isWater_20 : decode cX10_isWater 20 = .ok (.iand, 1) := by decide +kernel
theorem dX10_isWater_21 : decode cX10_isWater 21 = .ok (.istore 4, 2) := by decide +kernel
theorem dX10_isWater_23 : decode cX10_isWater 23 = .ok (.aload_n 0, 1) := by decide +kernel
theorem dX10_isWater_24 : decode cX10_isWater 24 = .ok (.getfield 77, 3) := by decide +kernel
theorem dX10_isWater_27 : decode cX10_isWater 27 = .ok (.iload_n 1, 1) := by decide +kernel
theorem dX10_isWater_28 : decode cX10_isWater 28 = .ok (.iaload, 1) := by decide +kernel
theorem dX10_isWater_29 : decode cX10_isWater 29 = .ok (.iload 4, 2) := by decide +kernel
theorem dX10_isWater_31 : decode cX10_isWater 31 = .ok (.iconst (-1), 1) := by decide +kernel
theorem dX10_isWater_32 : decode cX10_isWater 32 = .ok (.ixor, 1) := by decide +kernel
theorem dX10_isWater_33 : decode cX10_isWater 33 = .ok (.iand, 1) := by decide +kernel
theorem dX10_isWater_34 : decode cX10_isWater 34 = .ok (.ifCond .ne 7, 3) := by decide +kernel
theorem dX10_isWater_37 : decode cX10_isWater 37 = .ok (.iconst 1, 1) := by decide +kernel
theorem dX10_isWater_38 : decode cX10_isWater 38 = .ok (.goto 4, 3) := by decide +kernel
theorem dX10_isWater_41 : decode cX10_isWater 41 = .ok (.iconst 0, 1) := by decide +kernel
theorem dX10_isWater_42 : decode cX10_isWater 42 = .ok (.istore 5, 2) := by decide +kernel
theorem dX10_isWater_44 : decode cX10_isWater 44 = .ok (.aload_n 0, 1) := by decide +kernel
theorem dX10_isWater_45 : decode cX10_isWater 45 = .ok (.getfield 74, 3) := by decide +kernel
theorem dX10_isWater_48 : decode cX10_isWater 48 = .ok (.iload_n 1, 1) := by decide +kernel
theorem dX10_isWater_49 : decode cX10_isWater 49 = .ok (.iaload, 1) := by decide +kernel
theorem dX10_isWater_50 : decode cX10_isWater 50 = .ok (.aload_n 0, 1) := by decide +kernel
theorem dX10_isWater_51 : decode cX10_isWater 51 = .ok (.iload_n 3, 1) := by decide +kernel
theorem dX10_isWater_52 : decode cX10_isWater 52 = .ok (.iconst 1, 1) := by decide +kernel
theorem dX10_isWater_53 : decode cX10_isWater 53 = .ok (.invokevirtual 186, 3) := by decide +kernel
theorem dX10_isWater_56 : decode cX10_isWater 56 = .ok (.isub, 1) := by decide +kernel
theorem dX10_isWater_57 : decode cX10_isWater 57 = .ok (.bipush 10, 2) := by decide +kernel
theorem dX10_isWater_59 : decode cX10_isWater 59 = .ok (.if_icmp .lt 7, 3) := by decide +kernel
theorem dX10_isWater_62 : decode cX10_isWater 62 = .ok (.iconst 1, 1) := by decide +kernel
theorem dX10_isWater_63 : decode cX10_isWater 63 = .ok (.goto 4, 3) := by decide +kernel
theorem dX10_isWater_66 : decode cX10_isWater 66 = .ok (.iconst 0, 1) := by decide +kernel
theorem dX10_isWater_67 : decode cX10_isWater 67 = .ok (.istore 6, 2) := by decide +kernel
theorem dX10_isWater_69 : decode cX10_isWater 69 = .ok (.iload_n 2, 1) := by decide +kernel
theorem dX10_isWater_70 : decode cX10_isWater 70 = .ok (.ifCond .ne 47, 3) := by decide +kernel
theorem dX10_isWater_73 : decode cX10_isWater 73 = .ok (.iload 5, 2) := by decide +kernel
theorem dX10_isWater_75 : decode cX10_isWater 75 = .ok (.ifCond .eq 40, 3) := by decide +kernel
theorem dX10_isWater_78 : decode cX10_isWater 78 = .ok (.aload_n 0, 1) := by decide +kernel
theorem dX10_isWater_79 : decode cX10_isWater 79 = .ok (.iload_n 3, 1) := by decide +kernel
theorem dX10_isWater_80 : decode cX10_isWater 80 = .ok (.invokevirtual 190, 3) := by decide +kernel
theorem dX10_isWater_83 : decode cX10_isWater 83 = .ok (.ifCond .ne 32, 3) := by decide +kernel
theorem dX10_isWater_86 : decode cX10_isWater 86 = .ok (.iload 6, 2) := by decide +kernel
theorem dX10_isWater_88 : decode cX10_isWater 88 = .ok (.ifCond .eq 27, 3) := by decide +kernel
theorem dX10_isWater_91 : decode cX10_isWater 91 = .ok (.aload_n 0, 1) := by decide +kernel
theorem dX10_isWater_92 : decode cX10_isWater 92 = .ok (.iload_n 3, 1) := by decide +kernel
theorem dX10_isWater_93 : decode cX10_isWater 93 = .ok (.invokevirtual 193, 3) := by decide +kernel
theorem dX10_isWater_96 : decode cX10_isWater 96 = .ok (.ldc2_w 197, 3) := by decide +kernel
theorem dX10_isWater_99 : decode cX10_isWater 99 = .ok (.aload_n 0, 1) := by decide +kernel
theorem dX10_isWater_100 : decode cX10_isWater 100 = .ok (.getfield 34, 3) := by decide +kernel
theorem dX10_isWater_103 : decode cX10_isWater 103 = .ok (.iload_n 3, 1) := by decide +kernel
theorem dX10_isWater_104 : decode cX10_isWater 104 = .ok (.iaload, 1) := by decide +kernel
theorem dX10_isWater_105 : decode cX10_isWater 105 = .ok (.i2l, 1) := by decide +kernel
theorem dX10_isWater_106 : decode cX10_isWater 106 = .ok (.lmul, 1) := by decide +kernel
theorem dX10_isWater_107 : decode cX10_isWater 107 = .ok (.lcmp, 1) := by decide +kernel
theorem dX10_isWater_108 : decode cX10_isWater 108 = .ok (.ifCond .gt 7, 3) := by decide +kernel
theorem dX10_isWater_111 : decode cX10_isWater 111 = .ok (.iconst 1, 1) := by decide +kernel
theorem dX10_isWater_112 : decode cX10_isWater 112 = .ok (.goto 4, 3) := by decide +kernel
theorem dX10_isWater_115 : decode cX10_isWater 115 = .ok (.iconst 0, 1) := by decide +kernel
theorem dX10_isWater_116 : decode cX10_isWater 116 = .ok (.ireturn, 1) := by decide +kernel
theorem dX10_isWater_117 : decode cX10_isWater 117 = .ok (.iload_n 2, 1) := by decide +kernel
theorem dX10_isWater_118 : decode cX10_isWater 118 = .ok (.iconst 1, 1) := by decide +kernel
theorem dX10_isWater_119 : decode cX10_isWater 119 = .ok (.if_icmp .ne 28, 3) := by decide +kernel
theorem dX10_isWater_122 : decode cX10_isWater 122 = .ok (.iload 5, 2) := by decide +kernel
theorem dX10_isWater_124 : decode cX10_isWater 124 = .ok (.ifCond .eq 27, 3) := by decide +kernel
theorem dX10_isWater_127 : decode cX10_isWater 127 = .ok (.aload_n 0, 1) := by decide +kernel
theorem dX10_isWater_128 : decode cX10_isWater 128 = .ok (.iload_n 3, 1) := by decide +kernel
theorem dX10_isWater_129 : decode cX10_isWater 129 = .ok (.invokevirtual 193, 3) := by decide +kernel
theorem dX10_isWater_132 : decode cX10_isWater 132 = .ok (.ldc2_w 199, 3) := by decide +kernel
theorem dX10_isWater_135 : decode cX10_isWater 135 = .ok (.aload_n 0, 1) := by decide +kernel
theorem dX10_isWater_136 : decode cX10_isWater 136 = .ok (.getfield 34, 3) := by decide +kernel
theorem dX10_isWater_139 : decode cX10_isWater 139 = .ok (.iload_n 3, 1) := by decide +kernel
theorem dX10_isWater_140 : decode cX10_isWater 140 = .ok (.iaload, 1) := by decide +kernel
theorem dX10_isWater_141 : decode cX10_isWater 141 = .ok (.i2l, 1) := by decide +kernel
theorem dX10_isWater_142 : decode cX10_isWater 142 = .ok (.lmul, 1) := by decide +kernel
theorem dX10_isWater_143 : decode cX10_isWater 143 = .ok (.lcmp, 1) := by decide +kernel
theorem dX10_isWater_144 : decode cX10_isWater 144 = .ok (.ifCond .gt 7, 3) := by decide +kernel
theorem dX10_isWater_147 : decode cX10_isWater 147 = .ok (.iconst 1, 1) := by decide +kernel
theorem dX10_isWater_148 : decode cX10_isWater 148 = .ok (.goto 4, 3) := by decide +kernel
theorem dX10_isWater_151 : decode cX10_isWater 151 = .ok (.iconst 0, 1) := by decide +kernel
theorem dX10_isWater_152 : decode cX10_isWater 152 = .ok (.ireturn, 1) := by decide +kernel
theorem dX10_label_0 : decode cX10_label 0 = .ok (.aload_n 0, 1) := by decide +kernel
theorem dX10_label_1 : decode cX10_label 1 = .ok (.iload_n 1, 1) := by decide +kernel
theorem dX10_label_2 : decode cX10_label 2 = .ok (.invokevirtual 180, 3) := by decide +kernel
theorem dX10_label_5 : decode cX10_label 5 = .ok (.istore_n 3, 1) := by decide +kernel
theorem dX10_label_6 : decode cX10_label 6 = .ok (.iload_n 2, 1) := by decide +kernel
theorem dX10_label_7 : decode cX10_label 7 = .ok (.iconst 0, 1) := by decide +kernel
theorem dX10_label_8 : decode cX10_label 8 = .ok (.iconst 2, 1) := by decide +kernel
theorem dX10_label_9 : decode cX10_label 9 = .ok (.invokestatic 93, 3) := by decide +kernel
theorem dX10_label_12 : decode cX10_label 12 = .ok (.istore 4, 2) := by decide +kernel
theorem dX10_label_14 : decode cX10_label 14 = .ok (.aload_n 0, 1) := by decide +kernel
theorem dX10_label_15 : decode cX10_label 15 = .ok (.iload_n 3, 1) := by decide +kernel
theorem dX10_label_16 : decode cX10_label 16 = .ok (.ifCond .ne 7, 3) := by decide +kernel
theorem dX10_label_19 : decode cX10_label 19 = .ok (.iconst 1, 1) := by decide +kernel
theorem dX10_label_20 : decode cX10_label 20 = .ok (.goto 27, 3) := by decide +kernel
theorem dX10_label_23 : decode cX10_label 23 = .ok (.iload 4, 2) := by decide +kernel
theorem dX10_label_25 : decode cX10_label 25 = .ok (.ifCond .ne 7, 3) := by decide +kernel
theorem dX10_label_28 : decode cX10_label 28 = .ok (.iconst 2, 1) := by decide +kernel
theorem dX10_label_29 : decode cX10_label 29 = .ok (.goto 18, 3) := by decide +kernel
theorem dX10_label_32 : decode cX10_label 32 = .ok (.aload_n 0, 1) := by decide +kernel
theorem dX10_label_33 : decode cX10_label 33 = .ok (.getfield 80, 3) := by decide +kernel
theorem dX10_label_36 : decode cX10_label 36 = .ok (.iload_n 1, 1) := by decide +kernel
theorem dX10_label_37 : decode cX10_label 37 = .ok (.iaload, 1) := by decide +kernel
theorem dX10_label_38 : decode cX10_label 38 = .ok (.iconst (-1), 1) := by decide +kernel
theorem dX10_label_39 : decode cX10_label 39 = .ok (.if_icmp .eq 7, 3) := by decide +kernel
theorem dX10_label_42 : decode cX10_label 42 = .ok (.iconst 3, 1) := by decide +kernel
theorem dX10_label_43 : decode cX10_label 43 = .ok (.goto 4, 3) := by decide +kernel
theorem dX10_label_46 : decode cX10_label 46 = .ok (.iconst 0, 1) := by decide +kernel
theorem dX10_label_47 : decode cX10_label 47 = .ok (.invokevirtual 107, 3) := by decide +kernel
theorem dX10_label_50 : decode cX10_label 50 = .ok (.ifCond .ne 5, 3) := by decide +kernel
theorem dX10_label_53 : decode cX10_label 53 = .ok (.iconst 0, 1) := by decide +kernel
theorem dX10_label_54 : decode cX10_label 54 = .ok (.ireturn, 1) := by decide +kernel
theorem dX10_label_55 : decode cX10_label 55 = .ok (.aload_n 0, 1) := by decide +kernel
theorem dX10_label_56 : decode cX10_label 56 = .ok (.getfield 80, 3) := by decide +kernel
theorem dX10_label_59 : decode cX10_label 59 = .ok (.iload_n 1, 1) := by decide +kernel
theorem dX10_label_60 : decode cX10_label 60 = .ok (.iload_n 2, 1) := by decide +kernel
theorem dX10_label_61 : decode cX10_label 61 = .ok (.iastore, 1) := by decide +kernel
theorem dX10_label_62 : decode cX10_label 62 = .ok (.aload_n 0, 1) := by decide +kernel
theorem dX10_label_63 : decode cX10_label 63 = .ok (.getfield 83, 3) := by decide +kernel
theorem dX10_label_66 : decode cX10_label 66 = .ok (.iload_n 1, 1) := by decide +kernel
theorem dX10_label_67 : decode cX10_label 67 = .ok (.aload_n 0, 1) := by decide +kernel
theorem dX10_label_68 : decode cX10_label 68 = .ok (.iload_n 1, 1) := by decide +kernel
theorem dX10_label_69 : decode cX10_label 69 = .ok (.iload_n 2, 1) := by decide +kernel
theorem dX10_label_70 : decode cX10_label 70 = .ok (.invokevirtual 201, 3) := by decide +kernel
theorem dX10_label_73 : decode cX10_label 73 = .ok (.bastore, 1) := by decide +kernel
theorem dX10_label_74 : decode cX10_label 74 = .ok (.aload_n 0, 1) := by decide +kernel
theorem dX10_label_75 : decode cX10_label 75 = .ok (.getfield 83, 3) := by decide +kernel
theorem dX10_label_78 : decode cX10_label 78 = .ok (.iload_n 1, 1) := by decide +kernel
theorem dX10_label_79 : decode cX10_label 79 = .ok (.baload, 1) := by decide +kernel
theorem dX10_label_80 : decode cX10_label 80 = .ok (.ireturn, 1) := by decide +kernel
theorem dX10_forbid_0 : decode cX10_forbid 0 = .ok (.iload_n 1, 1) := by decide +kernel
theorem dX10_forbid_1 : decode cX10_forbid 1 = .ok (.iconst 0, 1) := by decide +kernel
theorem dX10_forbid_2 : decode cX10_forbid 2 = .ok (.iconst 5, 1) := by decide +kernel
theorem dX10_forbid_3 : decode cX10_forbid 3 = .ok (.invokestatic 93, 3) := by decide +kernel
theorem dX10_forbid_6 : decode cX10_forbid 6 = .ok (.istore_n 2, 1) := by decide +kernel
theorem dX10_forbid_7 : decode cX10_forbid 7 = .ok (.aload_n 0, 1) := by decide +kernel
theorem dX10_forbid_8 : decode cX10_forbid 8 = .ok (.iload_n 2, 1) := by decide +kernel
theorem dX10_forbid_9 : decode cX10_forbid 9 = .ok (.ifCond .ne 7, 3) := by decide +kernel
theorem dX10_forbid_12 : decode cX10_forbid 12 = .ok (.iconst 1, 1) := by decide +kernel
theorem dX10_forbid_13 : decode cX10_forbid 13 = .ok (.goto 20, 3) := by decide +kernel
theorem dX10_forbid_16 : decode cX10_forbid 16 = .ok (.aload_n 0, 1) := by decide +kernel
theorem dX10_forbid_17 : decode cX10_forbid 17 = .ok (.getfield 183, 3) := by decide +kernel
theorem dX10_forbid_20 : decode cX10_forbid 20 = .ok (.iload_n 1, 1) := by decide +kernel
theorem dX10_forbid_21 : decode cX10_forbid 21 = .ok (.ishr, 1) := by decide +kernel
theorem dX10_forbid_22 : decode cX10_forbid 22 = .ok (.iconst 1, 1) := by decide +kernel
theorem dX10_forbid_23 : decode cX10_forbid 23 = .ok (.iand, 1) := by decide +kernel
theorem dX10_forbid_24 : decode cX10_forbid 24 = .ok (.iconst 1, 1) := by decide +kernel
theorem dX10_forbid_25 : decode cX10_forbid 25 = .ok (.if_icmp .ne 7, 3) := by decide +kernel
theorem dX10_forbid_28 : decode cX10_forbid 28 = .ok (.iconst 2, 1) := by decide +kernel
theorem dX10_forbid_29 : decode cX10_forbid 29 = .ok (.goto 4, 3) := by decide +kernel
theorem dX10_forbid_32 : decode cX10_forbid 32 = .ok (.iconst 0, 1) := by decide +kernel
theorem dX10_forbid_33 : decode cX10_forbid 33 = .ok (.invokevirtual 107, 3) := by decide +kernel
theorem dX10_forbid_36 : decode cX10_forbid 36 = .ok (.ifCond .ne 5, 3) := by decide +kernel
theorem dX10_forbid_39 : decode cX10_forbid 39 = .ok (.iconst 0, 1) := by decide +kernel
theorem dX10_forbid_40 : decode cX10_forbid 40 = .ok (.ireturn, 1) := by decide +kernel
theorem dX10_forbid_41 : decode cX10_forbid 41 = .ok (.aload_n 0, 1) := by decide +kernel
theorem dX10_forbid_42 : decode cX10_forbid 42 = .ok (.dup, 1) := by decide +kernel
theorem dX10_forbid_43 : decode cX10_forbid 43 = .ok (.getfield 183, 3) := by decide +kernel
theorem dX10_forbid_46 : decode cX10_forbid 46 = .ok (.iconst 1, 1) := by decide +kernel
theorem dX10_forbid_47 : decode cX10_forbid 47 = .ok (.iload_n 1, 1) := by decide +kernel
theorem dX10_forbid_48 : decode cX10_forbid 48 = .ok (.ishl, 1) := by decide +kernel
theorem dX10_forbid_49 : decode cX10_forbid 49 = .ok (.ior, 1) := by decide +kernel
theorem dX10_forbid_50 : decode cX10_forbid 50 = .ok (.putfield 183, 3) := by decide +kernel
theorem dX10_forbid_53 : decode cX10_forbid 53 = .ok (.iconst 0, 1) := by decide +kernel
theorem dX10_forbid_54 : decode cX10_forbid 54 = .ok (.istore_n 3, 1) := by decide +kernel
theorem dX10_forbid_55 : decode cX10_forbid 55 = .ok (.iconst 0, 1) := by decide +kernel
theorem dX10_forbid_56 : decode cX10_forbid 56 = .ok (.istore 4, 2) := by decide +kernel
theorem dX10_forbid_58 : decode cX10_forbid 58 = .ok (.iload 4, 2) := by decide +kernel
theorem dX10_forbid_60 : decode cX10_forbid 60 = .ok (.aload_n 0, 1) := by decide +kernel
theorem dX10_forbid_61 : decode cX10_forbid 61 = .ok (.getfield 100, 3) := by decide +kernel
theorem dX10_forbid_64 : decode cX10_forbid 64 = .ok (.if_icmp .ge 102, 3) := by decide +kernel
theorem dX10_forbid_67 : decode cX10_forbid 67 = .ok (.aload_n 0, 1) := by decide +kernel
theorem dX10_forbid_68 : decode cX10_forbid 68 = .ok (.getfield 77, 3) := by decide +kernel
theorem dX10_forbid_71 : decode cX10_forbid 71 = .ok (.iload 4, 2) := by decide +kernel
theorem dX10_forbid_73 : decode cX10_forbid 73 = .ok (.iaload, 1) := by decide +kernel
theorem dX10_forbid_74 : decode cX10_forbid 74 = .ok (.iload_n 1, 1) := by decide +kernel
theorem dX10_forbid_75 : decode cX10_forbid 75 = .ok (.ishr, 1) := by decide +kernel
theorem dX10_forbid_76 : decode cX10_forbid 76 = .ok (.iconst 1, 1) := by decide +kernel
theorem dX10_forbid_77 : decode cX10_forbid 77 = .ok (.iand, 1) := by decide +kernel
theorem dX10_forbid_78 : decode cX10_forbid 78 = .ok (.iconst 1, 1) := by decide +kernel
theorem dX10_forbid_79 : decode cX10_forbid 79 = .ok (.if_icmp .ne 38, 3) := by decide +kernel
theorem dX10_forbid_82 : decode cX10_forbid 82 = .ok (.aload_n 0, 1) := by decide +kernel
theorem dX10_forbid_83 : decode cX10_forbid 83 = .ok (.getfield 80, 3) := by decide +kernel
theorem dX10_forbid_86 : decode cX10_forbid 86 = .ok (.iload 4, 2) := by decide +kernel
theorem dX10_forbid_88 : decode cX10_forbid 88 = .ok (.iaload, 1) := by decide +kernel
theorem dX10_forbid_89 : decode cX10_forbid 89 = .ok (.ifCond .eq 14, 3) := by decide +kernel
theorem dX10_forbid_92 : decode cX10_forbid 92 = .ok (.aload_n 0, 1) := by decide +kernel
theorem dX10_forbid_93 : decode cX10_forbid 93 = .ok (.getfield 80, 3) := by decide +kernel
theorem dX10_forbid_96 : decode cX10_forbid 96 = .ok (.iload 4, 2) := by decide +kernel
theorem dX10_forbid_98 : decode cX10_forbid 98 = .ok (.iaload, 1) := by decide +kernel
theorem dX10_forbid_99 : decode cX10_forbid 99 = .ok (.iconst 1, 1) := by decide +kernel
theorem dX10_forbid_100 : decode cX10_forbid 100 = .ok (.if_icmp .ne 17, 3) := by decide +kernel
theorem dX10_forbid_103 : decode cX10_forbid 103 = .ok (.aload_n 0, 1) := by decide +kernel
theorem dX10_forbid_104 : decode cX10_forbid 104 = .ok (.getfield 87, 3) := by decide +kernel
theorem dX10_forbid_107 : decode cX10_forbid 107 = .ok (.iload 4, 2) := by decide +kernel
theorem dX10_forbid_109 : decode cX10_forbid 109 = .ok (.baload, 1) := by decide +kernel
theorem dX10_forbid_110 : decode cX10_forbid 110 = .ok (.ifCond .ne 7, 3) := by decide +kernel
theorem dX10_forbid_113 : decode cX10_forbid 113 = .ok (.iconst 1, 1) := by decide +kernel
theorem dX10_forbid_114 : decode cX10_forbid 114 = .ok (.goto 4, 3) := by decide +kernel
theorem dX10_forbid_117 : decode cX10_forbid 117 = .ok (.iconst 0, 1) := by decide +kernel
theorem dX10_forbid_118 : decode cX10_forbid 118 = .ok (.istore 5, 2) := by decide +kernel
theorem dX10_forbid_120 : decode cX10_forbid 120 = .ok (.iload_n 3, 1) := by decide +kernel
theorem dX10_forbid_121 : decode cX10_forbid 121 = .ok (.iload 5, 2) := by decide +kernel
theorem dX10_forbid_123 : decode cX10_forbid 123 = .ok (.ifCond .eq 7, 3) := by decide +kernel
theorem dX10_forbid_126 : decode cX10_forbid 126 = .ok (.iconst 1, 1) := by decide +kernel
theorem dX10_forbid_127 : decode cX10_forbid 127 = .ok (.goto 4, 3) := by decide +kernel
theorem dX10_forbid_130 : decode cX10_forbid 130 = .ok (.iconst 0, 1) := by decide +kernel
theorem dX10_forbid_131 : decode cX10_forbid 131 = .ok (.iadd, 1) := by decide +kernel
theorem dX10_forbid_132 : decode cX10_forbid 132 = .ok (.istore_n 3, 1) := by decide +kernel
theorem dX10_forbid_133 : decode cX10_forbid 133 = .ok (.aload_n 0, 1) := by decide +kernel
theorem dX10_forbid_134 : decode cX10_forbid 134 = .ok (.getfield 87, 3) := by decide +kernel
theorem dX10_forbid_137 : decode cX10_forbid 137 = .ok (.iload 4, 2) := by decide +kernel
theorem dX10_forbid_139 : decode cX10_forbid 139 = .ok (.aload_n 0, 1) := by decide +kernel
theorem dX10_forbid_140 : decode cX10_forbid 140 = .ok (.getfield 87, 3) := by decide +kernel
theorem dX10_forbid_143 : decode cX10_forbid 143 = .ok (.iload 4, 2) := by decide +kernel
theorem dX10_forbid_145 : decode cX10_forbid 145 = .ok (.baload, 1) := by decide +kernel
theorem dX10_forbid_146 : decode cX10_forbid 146 = .ok (.ifCond .ne 8, 3) := by decide +kernel
theorem dX10_forbid_149 : decode cX10_forbid 149 = .ok (.iload 5, 2) := by decide +kernel
theorem dX10_forbid_151 : decode cX10_forbid 151 = .ok (.ifCond .eq 7, 3) := by decide +kernel
theorem dX10_forbid_154 : decode cX10_forbid 154 = .ok (.iconst 1, 1) := by decide +kernel
theorem dX10_forbid_155 : decode cX10_forbid 155 = .ok (.goto 4, 3) := by decide +kernel
theorem dX10_forbid_158 : decode cX10_forbid 158 = .ok (.iconst 0, 1) := by decide +kernel
theorem dX10_forbid_159 : decode cX10_forbid 159 = .ok (.bastore, 1) := by decide +kernel
theorem dX10_forbid_160 : decode cX10_forbid 160 = .ok (.iinc 4 1, 3) := by decide +kernel
theorem dX10_forbid_163 : decode cX10_forbid 163 = .ok (.goto (-105), 3) := by decide +kernel
theorem dX10_forbid_166 : decode cX10_forbid 166 = .ok (.iload_n 3, 1) := by decide +kernel
theorem dX10_forbid_167 : decode cX10_forbid 167 = .ok (.ireturn, 1) := by decide +kernel
theorem dX10_year_0 : decode cX10_year 0 = .ok (.aload_n 0, 1) := by decide +kernel
theorem dX10_year_1 : decode cX10_year 1 = .ok (.iconst 0, 1) := by decide +kernel
theorem dX10_year_2 : decode cX10_year 2 = .ok (.putfield 90, 3) := by decide +kernel
theorem dX10_year_5 : decode cX10_year 5 = .ok (.aload_n 0, 1) := by decide +kernel
theorem dX10_year_6 : decode cX10_year 6 = .ok (.getfield 131, 3) := by decide +kernel
theorem dX10_year_9 : decode cX10_year 9 = .ok (.ireturn, 1) := by decide +kernel
theorem dX10_cellOf_0 : decode cX10_cellOf 0 = .ok (.aload_n 0, 1) := by decide +kernel
theorem dX10_cellOf_1 : decode cX10_cellOf 1 = .ok (.iload_n 1, 1) := by decide +kernel
theorem dX10_cellOf_2 : decode cX10_cellOf 2 = .ok (.invokestatic 103, 3) := by decide +kernel
theorem dX10_cellOf_5 : decode cX10_cellOf 5 = .ok (.ifCond .ne 7, 3) := by decide +kernel
theorem dX10_cellOf_8 : decode cX10_cellOf 8 = .ok (.iconst 1, 1) := by decide +kernel
theorem dX10_cellOf_9 : decode cX10_cellOf 9 = .ok (.goto 18, 3) := by decide +kernel
theorem dX10_cellOf_12 : decode cX10_cellOf 12 = .ok (.iload_n 2, 1) := by decide +kernel
theorem dX10_cellOf_13 : decode cX10_cellOf 13 = .ok (.iconst 0, 1) := by decide +kernel
theorem dX10_cellOf_14 : decode cX10_cellOf 14 = .ok (.bipush 6, 2) := by decide +kernel
theorem dX10_cellOf_16 : decode cX10_cellOf 16 = .ok (.invokestatic 93, 3) := by decide +kernel
theorem dX10_cellOf_19 : decode cX10_cellOf 19 = .ok (.ifCond .eq 7, 3) := by decide +kernel
theorem dX10_cellOf_22 : decode cX10_cellOf 22 = .ok (.iconst 0, 1) := by decide +kernel
theorem dX10_cellOf_23 : decode cX10_cellOf 23 = .ok (.goto 4, 3) := by decide +kernel
theorem dX10_cellOf_26 : decode cX10_cellOf 26 = .ok (.iconst 2, 1) := by decide +kernel
theorem dX10_cellOf_27 : decode cX10_cellOf 27 = .ok (.invokevirtual 107, 3) := by decide +kernel
theorem dX10_cellOf_30 : decode cX10_cellOf 30 = .ok (.ifCond .ne 5, 3) := by decide +kernel
theorem dX10_cellOf_33 : decode cX10_cellOf 33 = .ok (.iconst 0, 1) := by decide +kernel
theorem dX10_cellOf_34 : decode cX10_cellOf 34 = .ok (.ireturn, 1) := by decide +kernel
theorem dX10_cellOf_35 : decode cX10_cellOf 35 = .ok (.iload_n 2, 1) := by decide +kernel
theorem dX10_cellOf_36 : decode cX10_cellOf 36 = .ok (.tableswitch 81 0 5 #[40, 47, 54, 61, 68, 74], 40) := by decide +kernel
theorem dX10_cellOf_76 : decode cX10_cellOf 76 = .ok (.aload_n 0, 1) := by decide +kernel
theorem dX10_cellOf_77 : decode cX10_cellOf 77 = .ok (.getfield 34, 3) := by decide +kernel
theorem dX10_cellOf_80 : decode cX10_cellOf 80 = .ok (.iload_n 1, 1) := by decide +kernel
theorem dX10_cellOf_81 : decode cX10_cellOf 81 = .ok (.iaload, 1) := by decide +kernel
theorem dX10_cellOf_82 : decode cX10_cellOf 82 = .ok (.ireturn, 1) := by decide +kernel
theorem dX10_cellOf_83 : decode cX10_cellOf 83 = .ok (.aload_n 0, 1) := by decide +kernel
theorem dX10_cellOf_84 : decode cX10_cellOf 84 = .ok (.getfield 7, 3) := by decide +kernel
theorem dX10_cellOf_87 : decode cX10_cellOf 87 = .ok (.iload_n 1, 1) := by decide +kernel
theorem dX10_cellOf_88 : decode cX10_cellOf 88 = .ok (.iaload, 1) := by decide +kernel
theorem dX10_cellOf_89 : decode cX10_cellOf 89 = .ok (.ireturn, 1) := by decide +kernel
theorem dX10_cellOf_90 : decode cX10_cellOf 90 = .ok (.aload_n 0, 1) := by decide +kernel
theorem dX10_cellOf_91 : decode cX10_cellOf 91 = .ok (.getfield 13, 3) := by decide +kernel
theorem dX10_cellOf_94 : decode cX10_cellOf 94 = .ok (.iload_n 1, 1) := by decide +kernel
theorem dX10_cellOf_95 : decode cX10_cellOf 95 = .ok (.iaload, 1) := by decide +kernel
theorem dX10_cellOf_96 : decode cX10_cellOf 96 = .ok (.ireturn, 1) := by decide +kernel
theorem dX10_cellOf_97 : decode cX10_cellOf 97 = .ok (.aload_n 0, 1) := by decide +kernel
theorem dX10_cellOf_98 : decode cX10_cellOf 98 = .ok (.getfield 16, 3) := by decide +kernel
theorem dX10_cellOf_101 : decode cX10_cellOf 101 = .ok (.iload_n 1, 1) := by decide +kernel
theorem dX10_cellOf_102 : decode cX10_cellOf 102 = .ok (.iaload, 1) := by decide +kernel
theorem dX10_cellOf_103 : decode cX10_cellOf 103 = .ok (.ireturn, 1) := by decide +kernel
theorem dX10_cellOf_104 : decode cX10_cellOf 104 = .ok (.aload_n 0, 1) := by decide +kernel
theorem dX10_cellOf_105 : decode cX10_cellOf 105 = .ok (.iload_n 1, 1) := by decide +kernel
theorem dX10_cellOf_106 : decode cX10_cellOf 106 = .ok (.invokevirtual 113, 3) := by decide +kernel
theorem dX10_cellOf_109 : decode cX10_cellOf 109 = .ok (.ireturn, 1) := by decide +kernel
theorem dX10_cellOf_110 : decode cX10_cellOf 110 = .ok (.aload_n 0, 1) := by decide +kernel
theorem dX10_cellOf_111 : decode cX10_cellOf 111 = .ok (.getfield 22, 3) := by decide +kernel
theorem dX10_cellOf_114 : decode cX10_cellOf 114 = .ok (.iload_n 1, 1) := by decide +kernel
theorem dX10_cellOf_115 : decode cX10_cellOf 115 = .ok (.iaload, 1) := by decide +kernel
theorem dX10_cellOf_116 : decode cX10_cellOf 116 = .ok (.ireturn, 1) := by decide +kernel
theorem dX10_cellOf_117 : decode cX10_cellOf 117 = .ok (.aload_n 0, 1) := by decide +kernel
theorem dX10_cellOf_118 : decode cX10_cellOf 118 = .ok (.getfield 28, 3) := by decide +kernel
theorem dX10_cellOf_121 : decode cX10_cellOf 121 = .ok (.iload_n 1, 1) := by decide +kernel
theorem dX10_cellOf_122 : decode cX10_cellOf 122 = .ok (.iaload, 1) := by decide +kernel
theorem dX10_cellOf_123 : decode cX10_cellOf 123 = .ok (.iconst (-1), 1) := by decide +kernel
theorem dX10_cellOf_124 : decode cX10_cellOf 124 = .ok (.if_icmp .ne 7, 3) := by decide +kernel
theorem dX10_cellOf_127 : decode cX10_cellOf 127 = .ok (.iconst (-1), 1) := by decide +kernel
theorem dX10_cellOf_128 : decode cX10_cellOf 128 = .ok (.goto 14, 3) := by decide +kernel
theorem dX10_cellOf_131 : decode cX10_cellOf 131 = .ok (.aload_n 0, 1) := by decide +kernel
theorem dX10_cellOf_132 : decode cX10_cellOf 132 = .ok (.getfield 46, 3) := by decide +kernel
theorem dX10_cellOf_135 : decode cX10_cellOf 135 = .ok (.aload_n 0, 1) := by decide +kernel
theorem dX10_cellOf_136 : decode cX10_cellOf 136 = .ok (.getfield 28, 3) := by decide +kernel
theorem dX10_cellOf_139 : decode cX10_cellOf 139 = .ok (.iload_n 1, 1) := by decide +kernel
theorem dX10_cellOf_140 : decode cX10_cellOf 140 = .ok (.iaload, 1) := by decide +kernel
theorem dX10_cellOf_141 : decode cX10_cellOf 141 = .ok (.iaload, 1) := by decide +kernel
theorem dX10_cellOf_142 : decode cX10_cellOf 142 = .ok (.ireturn, 1) := by decide +kernel
theorem dX10_flow_0 : decode cX10_flow 0 = .ok (.aload_n 0, 1) := by decide +kernel
theorem dX10_flow_1 : decode cX10_flow 1 = .ok (.iload_n 1, 1) := by decide +kernel
theorem dX10_flow_2 : decode cX10_flow 2 = .ok (.iconst 0, 1) := by decide +kernel
theorem dX10_flow_3 : decode cX10_flow 3 = .ok (.iconst 3, 1) := by decide +kernel
theorem dX10_flow_4 : decode cX10_flow 4 = .ok (.invokestatic 93, 3) := by decide +kernel
theorem dX10_flow_7 : decode cX10_flow 7 = .ok (.ifCond .eq 7, 3) := by decide +kernel
theorem dX10_flow_10 : decode cX10_flow 10 = .ok (.iconst 0, 1) := by decide +kernel
theorem dX10_flow_11 : decode cX10_flow 11 = .ok (.goto 4, 3) := by decide +kernel
theorem dX10_flow_14 : decode cX10_flow 14 = .ok (.iconst 1, 1) := by decide +kernel
theorem dX10_flow_15 : decode cX10_flow 15 = .ok (.invokevirtual 107, 3) := by decide +kernel
theorem dX10_flow_18 : decode cX10_flow 18 = .ok (.ifCond .ne 5, 3) := by decide +kernel
theorem dX10_flow_21 : decode cX10_flow 21 = .ok (.iconst 0, 1) := by decide +kernel
theorem dX10_flow_22 : decode cX10_flow 22 = .ok (.ireturn, 1) := by decide +kernel
theorem dX10_flow_23 : decode cX10_flow 23 = .ok (.iload_n 1, 1) := by decide +kernel
theorem dX10_flow_24 : decode cX10_flow 24 = .ok (.ifCond .ne 13, 3) := by decide +kernel
theorem dX10_flow_27 : decode cX10_flow 27 = .ok (.aload_n 0, 1) := by decide +kernel
theorem dX10_flow_28 : decode cX10_flow 28 = .ok (.getfield 34, 3) := by decide +kernel
theorem dX10_flow_31 : decode cX10_flow 31 = .ok (.bipush 10, 2) := by decide +kernel
theorem dX10_flow_33 : decode cX10_flow 33 = .ok (.iaload, 1) := by decide +kernel
theorem dX10_flow_34 : decode cX10_flow 34 = .ok (.goto 39, 3) := by decide +kernel
theorem dX10_flow_37 : decode cX10_flow 37 = .ok (.iload_n 1, 1) := by decide +kernel
theorem dX10_flow_38 : decode cX10_flow 38 = .ok (.iconst 1, 1) := by decide +kernel
theorem dX10_flow_39 : decode cX10_flow 39 = .ok (.if_icmp .ne 13, 3) := by decide +kernel
theorem dX10_flow_42 : decode cX10_flow 42 = .ok (.aload_n 0, 1) := by decide +kernel
theorem dX10_flow_43 : decode cX10_flow 43 = .ok (.bipush 10, 2) := by decide +kernel
theorem dX10_flow_45 : decode cX10_flow 45 = .ok (.invokevirtual 193, 3) := by decide +kernel
theorem dX10_flow_48 : decode cX10_flow 48 = .ok (.l2i, 1) := by decide +kernel
theorem dX10_flow_49 : decode cX10_flow 49 = .ok (.goto 24, 3) := by decide +kernel
theorem dX10_flow_52 : decode cX10_flow 52 = .ok (.iload_n 1, 1) := by decide +kernel
theorem dX10_flow_53 : decode cX10_flow 53 = .ok (.iconst 2, 1) := by decide +kernel
theorem dX10_flow_54 : decode cX10_flow 54 = .ok (.if_icmp .ne 12, 3) := by decide +kernel
theorem dX10_flow_57 : decode cX10_flow 57 = .ok (.aload_n 0, 1) := by decide +kernel
theorem dX10_flow_58 : decode cX10_flow 58 = .ok (.bipush 10, 2) := by decide +kernel
theorem dX10_flow_60 : decode cX10_flow 60 = .ok (.invokevirtual 190, 3) := by decide +kernel
theorem dX10_flow_63 : decode cX10_flow 63 = .ok (.goto 10, 3) := by decide +kernel
theorem dX10_flow_66 : decode cX10_flow 66 = .ok (.aload_n 0, 1) := by decide +kernel
theorem dX10_flow_67 : decode cX10_flow 67 = .ok (.bipush 10, 2) := by decide +kernel
theorem dX10_flow_69 : decode cX10_flow 69 = .ok (.iconst 0, 1) := by decide +kernel
theorem dX10_flow_70 : decode cX10_flow 70 = .ok (.invokevirtual 186, 3) := by decide +kernel
theorem dX10_flow_73 : decode cX10_flow 73 = .ok (.ireturn, 1) := by decide +kernel
theorem dX10_wellOf_0 : decode cX10_wellOf 0 = .ok (.aload_n 0, 1) := by decide +kernel
theorem dX10_wellOf_1 : decode cX10_wellOf 1 = .ok (.aload_n 0, 1) := by decide +kernel
theorem dX10_wellOf_2 : decode cX10_wellOf 2 = .ok (.iload_n 1, 1) := by decide +kernel
theorem dX10_wellOf_3 : decode cX10_wellOf 3 = .ok (.invokevirtual 165, 3) := by decide +kernel
theorem dX10_wellOf_6 : decode cX10_wellOf 6 = .ok (.ifCond .ne 7, 3) := by decide +kernel
theorem dX10_wellOf_9 : decode cX10_wellOf 9 = .ok (.iconst 1, 1) := by decide +kernel
theorem dX10_wellOf_10 : decode cX10_wellOf 10 = .ok (.goto 17, 3) := by decide +kernel
theorem dX10_wellOf_13 : decode cX10_wellOf 13 = .ok (.iload_n 2, 1) := by decide +kernel
theorem dX10_wellOf_14 : decode cX10_wellOf 14 = .ok (.iconst 0, 1) := by decide +kernel
theorem dX10_wellOf_15 : decode cX10_wellOf 15 = .ok (.iconst 3, 1) := by decide +kernel
theorem dX10_wellOf_16 : decode cX10_wellOf 16 = .ok (.invokestatic 93, 3) := by decide +kernel
theorem dX10_wellOf_19 : decode cX10_wellOf 19 = .ok (.ifCond .eq 7, 3) := by decide +kernel
theorem dX10_wellOf_22 : decode cX10_wellOf 22 = .ok (.iconst 0, 1) := by decide +kernel
theorem dX10_wellOf_23 : decode cX10_wellOf 23 = .ok (.goto 4, 3) := by decide +kernel
theorem dX10_wellOf_26 : decode cX10_wellOf 26 = .ok (.iconst 2, 1) := by decide +kernel
theorem dX10_wellOf_27 : decode cX10_wellOf 27 = .ok (.invokevirtual 107, 3) := by decide +kernel
theorem dX10_wellOf_30 : decode cX10_wellOf 30 = .ok (.ifCond .ne 5, 3) := by decide +kernel
theorem dX10_wellOf_33 : decode cX10_wellOf 33 = .ok (.iconst 0, 1) := by decide +kernel
theorem dX10_wellOf_34 : decode cX10_wellOf 34 = .ok (.ireturn, 1) := by decide +kernel
theorem dX10_wellOf_35 : decode cX10_wellOf 35 = .ok (.iload_n 2, 1) := by decide +kernel
theorem dX10_wellOf_36 : decode cX10_wellOf 36 = .ok (.ifCond .ne 12, 3) := by decide +kernel
theorem dX10_wellOf_39 : decode cX10_wellOf 39 = .ok (.aload_n 0, 1) := by decide +kernel
theorem dX10_wellOf_40 : decode cX10_wellOf 40 = .ok (.getfield 58, 3) := by decide +kernel
theorem dX10_wellOf_43 : decode cX10_wellOf 43 = .ok (.iload_n 1, 1) := by decide +kernel
theorem dX10_wellOf_44 : decode cX10_wellOf 44 = .ok (.iaload, 1) := by decide +kernel
theorem dX10_wellOf_45 : decode cX10_wellOf 45 = .ok (.goto 36, 3) := by decide +kernel
theorem dX10_wellOf_48 : decode cX10_wellOf 48 = .ok (.iload_n 2, 1) := by decide +kernel
theorem dX10_wellOf_49 : decode cX10_wellOf 49 = .ok (.iconst 1, 1) := by decide +kernel
theorem dX10_wellOf_50 : decode cX10_wellOf 50 = .ok (.if_icmp .ne 12, 3) := by decide +kernel
theorem dX10_wellOf_53 : decode cX10_wellOf 53 = .ok (.aload_n 0, 1) := by decide +kernel
theorem dX10_wellOf_54 : decode cX10_wellOf 54 = .ok (.getfield 61, 3) := by decide +kernel
theorem dX10_wellOf_57 : decode cX10_wellOf 57 = .ok (.iload_n 1, 1) := by decide +kernel
theorem dX10_wellOf_58 : decode cX10_wellOf 58 = .ok (.iaload, 1) := by decide +kernel
theorem dX10_wellOf_59 : decode cX10_wellOf 59 = .ok (.goto 22, 3) := by decide +kernel
theorem dX10_wellOf_62 : decode cX10_wellOf 62 = .ok (.iload_n 2, 1) := by decide +kernel
theorem dX10_wellOf_63 : decode cX10_wellOf 63 = .ok (.iconst 2, 1) := by decide +kernel
theorem dX10_wellOf_64 : decode cX10_wellOf 64 = .ok (.if_icmp .ne 12, 3) := by decide +kernel
theorem dX10_wellOf_67 : decode cX10_wellOf 67 = .ok (.aload_n 0, 1) := by decide +kernel
theorem dX10_wellOf_68 : decode cX10_wellOf 68 = .ok (.getfield 64, 3) := by decide +kernel
theorem dX10_wellOf_71 : decode cX10_wellOf 71 = .ok (.iload_n 1, 1) := by decide +kernel
theorem dX10_wellOf_72 : decode cX10_wellOf 72 = .ok (.iaload, 1) := by decide +kernel
theorem dX10_wellOf_73 : decode cX10_wellOf 73 = .ok (.goto 8, 3) := by decide +kernel
theorem dX10_wellOf_76 : decode cX10_wellOf 76 = .ok (.aload_n 0, 1) := by decide +kernel
theorem dX10_wellOf_77 : decode cX10_wellOf 77 = .ok (.iload_n 1, 1) := by decide +kernel
theorem dX10_wellOf_78 : decode cX10_wellOf 78 = .ok (.invokevirtual 168, 3) := by decide +kernel
theorem dX10_wellOf_81 : decode cX10_wellOf 81 = .ok (.ireturn, 1) := by decide +kernel
theorem dX10_lotOf_0 : decode cX10_lotOf 0 = .ok (.aload_n 0, 1) := by decide +kernel
theorem dX10_lotOf_1 : decode cX10_lotOf 1 = .ok (.aload_n 0, 1) := by decide +kernel
theorem dX10_lotOf_2 : decode cX10_lotOf 2 = .ok (.iload_n 1, 1) := by decide +kernel
theorem dX10_lotOf_3 : decode cX10_lotOf 3 = .ok (.invokevirtual 180, 3) := by decide +kernel
theorem dX10_lotOf_6 : decode cX10_lotOf 6 = .ok (.ifCond .ne 7, 3) := by decide +kernel
theorem dX10_lotOf_9 : decode cX10_lotOf 9 = .ok (.iconst 1, 1) := by decide +kernel
theorem dX10_lotOf_10 : decode cX10_lotOf 10 = .ok (.goto 18, 3) := by decide +kernel
theorem dX10_lotOf_13 : decode cX10_lotOf 13 = .ok (.iload_n 2, 1) := by decide +kernel
theorem dX10_lotOf_14 : decode cX10_lotOf 14 = .ok (.iconst 0, 1) := by decide +kernel
theorem dX10_lotOf_15 : decode cX10_lotOf 15 = .ok (.bipush 10, 2) := by decide +kernel
theorem dX10_lotOf_17 : decode cX10_lotOf 17 = .ok (.invokestatic 93, 3) := by decide +kernel
theorem dX10_lotOf_20 : decode cX10_lotOf 20 = .ok (.ifCond .eq 7, 3) := by decide +kernel
theorem dX10_lotOf_23 : decode cX10_lotOf 23 = .ok (.iconst 0, 1) := by decide +kernel
theorem dX10_lotOf_24 : decode cX10_lotOf 24 = .ok (.goto 4, 3) := by decide +kernel
theorem dX10_lotOf_27 : decode cX10_lotOf 27 = .ok (.iconst 2, 1) := by decide +kernel
theorem dX10_lotOf_28 : decode cX10_lotOf 28 = .ok (.invokevirtual 107, 3) := by decide +kernel
theorem dX10_lotOf_31 : decode cX10_lotOf 31 = .ok (.ifCond .ne 5, 3) := by decide +kernel
theorem dX10_lotOf_34 : decode cX10_lotOf 34 = .ok (.iconst 0, 1) := by decide +kernel
theorem dX10_lotOf_35 : decode cX10_lotOf 35 = .ok (.ireturn, 1) := by decide +kernel
theorem dX10_lotOf_36 : decode cX10_lotOf 36 = .ok (.iload_n 1, 1) := by decide +kernel
theorem dX10_lotOf_37 : decode cX10_lotOf 37 = .ok (.invokestatic 171, 3) := by decide +kernel
theorem dX10_lotOf_40 : decode cX10_lotOf 40 = .ok (.istore_n 3, 1) := by decide +kernel
theorem dX10_lotOf_41 : decode cX10_lotOf 41 = .ok (.iload_n 2, 1) := by decide +kernel
theorem dX10_lotOf_42 : decode cX10_lotOf 42 = .ok (.tableswitch 159 0 9 #[54, 61, 68, 75, 82, 88, 102, 116, 123, 130], 54) := by decide +kernel
theorem dX10_lotOf_96 : decode cX10_lotOf 96 = .ok (.aload_n 0, 1) := by decide +kernel
theorem dX10_lotOf_97 : decode cX10_lotOf 97 = .ok (.getfield 71, 3) := by decide +kernel
theorem dX10_lotOf_100 : decode cX10_lotOf 100 = .ok (.iload_n 1, 1) := by decide +kernel
theorem dX10_lotOf_101 : decode cX10_lotOf 101 = .ok (.iaload, 1) := by decide +kernel
theorem dX10_lotOf_102 : decode cX10_lotOf 102 = .ok (.ireturn, 1) := by decide +kernel
theorem dX10_lotOf_103 : decode cX10_lotOf 103 = .ok (.aload_n 0, 1) := by decide +kernel
theorem dX10_lotOf_104 : decode cX10_lotOf 104 = .ok (.getfield 34, 3) := by decide +kernel
theorem dX10_lotOf_107 : decode cX10_lotOf 107 = .ok (.iload_n 3, 1) := by decide +kernel
theorem dX10_lotOf_108 : decode cX10_lotOf 108 = .ok (.iaload, 1) := by decide +kernel
theorem dX10_lotOf_109 : decode cX10_lotOf 109 = .ok (.ireturn, 1) := by decide +kernel
theorem dX10_lotOf_110 : decode cX10_lotOf 110 = .ok (.aload_n 0, 1) := by decide +kernel
theorem dX10_lotOf_111 : decode cX10_lotOf 111 = .ok (.iload_n 3, 1) := by decide +kernel
theorem dX10_lotOf_112 : decode cX10_lotOf 112 = .ok (.invokevirtual 193, 3) := by decide +kernel
theorem dX10_lotOf_115 : decode cX10_lotOf 115 = .ok (.l2i, 1) := by decide +kernel
theorem dX10_lotOf_116 : decode cX10_lotOf 116 = .ok (.ireturn, 1) := by decide +kernel
theorem dX10_lotOf_117 : decode cX10_lotOf 117 = .ok (.aload_n 0, 1) := by decide +kernel
theorem dX10_lotOf_118 : decode cX10_lotOf 118 = .ok (.getfield 74, 3) := by decide +kernel
theorem dX10_lotOf_121 : decode cX10_lotOf 121 = .ok (.iload_n 1, 1) := by decide +kernel
theorem dX10_lotOf_122 : decode cX10_lotOf 122 = .ok (.iaload, 1) := by decide +kernel
theorem dX10_lotOf_123 : decode cX10_lotOf 123 = .ok (.ireturn, 1) := by decide +kernel
theorem dX10_lotOf_124 : decode cX10_lotOf 124 = .ok (.aload_n 0, 1) := by decide +kernel
theorem dX10_lotOf_125 : decode cX10_lotOf 125 = .ok (.iload_n 3, 1) := by decide +kernel
theorem dX10_lotOf_126 : decode cX10_lotOf 126 = .ok (.invokevirtual 190, 3) := by decide +kernel
theorem dX10_lotOf_129 : decode cX10_lotOf 129 = .ok (.ireturn, 1) := by decide +kernel
theorem dX10_lotOf_130 : decode cX10_lotOf 130 = .ok (.aload_n 0, 1) := by decide +kernel
theorem dX10_lotOf_131 : decode cX10_lotOf 131 = .ok (.getfield 74, 3) := by decide +kernel
theorem dX10_lotOf_134 : decode cX10_lotOf 134 = .ok (.iload_n 1, 1) := by decide +kernel
theorem dX10_lotOf_135 : decode cX10_lotOf 135 = .ok (.iaload, 1) := by decide +kernel
theorem dX10_lotOf_136 : decode cX10_lotOf 136 = .ok (.aload_n 0, 1) := by decide +kernel
theorem dX10_lotOf_137 : decode cX10_lotOf 137 = .ok (.iload_n 3, 1) := by decide +kernel
theorem dX10_lotOf_138 : decode cX10_lotOf 138 = .ok (.iconst 1, 1) := by decide +kernel
theorem dX10_lotOf_139 : decode cX10_lotOf 139 = .ok (.invokevirtual 186, 3) := by decide +kernel
theorem dX10_lotOf_142 : decode cX10_lotOf 142 = .ok (.isub, 1) := by decide +kernel
theorem dX10_lotOf_143 : decode cX10_lotOf 143 = .ok (.ireturn, 1) := by decide +kernel
theorem dX10_lotOf_144 : decode cX10_lotOf 144 = .ok (.aload_n 0, 1) := by decide +kernel
theorem dX10_lotOf_145 : decode cX10_lotOf 145 = .ok (.getfield 74, 3) := by decide +kernel
theorem dX10_lotOf_148 : decode cX10_lotOf 148 = .ok (.iload_n 1, 1) := by decide +kernel
theorem dX10_lotOf_149 : decode cX10_lotOf 149 = .ok (.iaload, 1) := by decide +kernel
theorem dX10_lotOf_150 : decode cX10_lotOf 150 = .ok (.aload_n 0, 1) := by decide +kernel
theorem dX10_lotOf_151 : decode cX10_lotOf 151 = .ok (.iload_n 3, 1) := by decide +kernel
theorem dX10_lotOf_152 : decode cX10_lotOf 152 = .ok (.iconst 0, 1) := by decide +kernel
theorem dX10_lotOf_153 : decode cX10_lotOf 153 = .ok (.invokevirtual 186, 3) := by decide +kernel
theorem dX10_lotOf_156 : decode cX10_lotOf 156 = .ok (.isub, 1) := by decide +kernel
theorem dX10_lotOf_157 : decode cX10_lotOf 157 = .ok (.ireturn, 1) := by decide +kernel
theorem dX10_lotOf_158 : decode cX10_lotOf 158 = .ok (.aload_n 0, 1) := by decide +kernel
theorem dX10_lotOf_159 : decode cX10_lotOf 159 = .ok (.getfield 77, 3) := by decide +kernel
theorem dX10_lotOf_162 : decode cX10_lotOf 162 = .ok (.iload_n 1, 1) := by decide +kernel
theorem dX10_lotOf_163 : decode cX10_lotOf 163 = .ok (.iaload, 1) := by decide +kernel
theorem dX10_lotOf_164 : decode cX10_lotOf 164 = .ok (.ireturn, 1) := by decide +kernel
theorem dX10_lotOf_165 : decode cX10_lotOf 165 = .ok (.aload_n 0, 1) := by decide +kernel
theorem dX10_lotOf_166 : decode cX10_lotOf 166 = .ok (.getfield 80, 3) := by decide +kernel
theorem dX10_lotOf_169 : decode cX10_lotOf 169 = .ok (.iload_n 1, 1) := by decide +kernel
theorem dX10_lotOf_170 : decode cX10_lotOf 170 = .ok (.iaload, 1) := by decide +kernel
theorem dX10_lotOf_171 : decode cX10_lotOf 171 = .ok (.ireturn, 1) := by decide +kernel
theorem dX10_lotOf_172 : decode cX10_lotOf 172 = .ok (.aload_n 0, 1) := by decide +kernel
theorem dX10_lotOf_173 : decode cX10_lotOf 173 = .ok (.getfield 80, 3) := by decide +kernel
theorem dX10_lotOf_176 : decode cX10_lotOf 176 = .ok (.iload_n 1, 1) := by decide +kernel
theorem dX10_lotOf_177 : decode cX10_lotOf 177 = .ok (.iaload, 1) := by decide +kernel
theorem dX10_lotOf_178 : decode cX10_lotOf 178 = .ok (.iconst (-1), 1) := by decide +kernel
theorem dX10_lotOf_179 : decode cX10_lotOf 179 = .ok (.if_icmp .ne 7, 3) := by decide +kernel
theorem dX10_lotOf_182 : decode cX10_lotOf 182 = .ok (.iconst (-1), 1) := by decide +kernel
theorem dX10_lotOf_183 : decode cX10_lotOf 183 = .ok (.goto 17, 3) := by decide +kernel
theorem dX10_lotOf_186 : decode cX10_lotOf 186 = .ok (.aload_n 0, 1) := by decide +kernel
theorem dX10_lotOf_187 : decode cX10_lotOf 187 = .ok (.getfield 83, 3) := by decide +kernel
theorem dX10_lotOf_190 : decode cX10_lotOf 190 = .ok (.iload_n 1, 1) := by decide +kernel
theorem dX10_lotOf_191 : decode cX10_lotOf 191 = .ok (.baload, 1) := by decide +kernel
theorem dX10_lotOf_192 : decode cX10_lotOf 192 = .ok (.ifCond .eq 7, 3) := by decide +kernel
theorem dX10_lotOf_195 : decode cX10_lotOf 195 = .ok (.iconst 1, 1) := by decide +kernel
theorem dX10_lotOf_196 : decode cX10_lotOf 196 = .ok (.goto 4, 3) := by decide +kernel
theorem dX10_lotOf_199 : decode cX10_lotOf 199 = .ok (.iconst 0, 1) := by decide +kernel
theorem dX10_lotOf_200 : decode cX10_lotOf 200 = .ok (.ireturn, 1) := by decide +kernel
theorem dX10_lotOf_201 : decode cX10_lotOf 201 = .ok (.aload_n 0, 1) := by decide +kernel
theorem dX10_lotOf_202 : decode cX10_lotOf 202 = .ok (.getfield 87, 3) := by decide +kernel
theorem dX10_lotOf_205 : decode cX10_lotOf 205 = .ok (.iload_n 1, 1) := by decide +kernel
theorem dX10_lotOf_206 : decode cX10_lotOf 206 = .ok (.baload, 1) := by decide +kernel
theorem dX10_lotOf_207 : decode cX10_lotOf 207 = .ok (.ifCond .eq 7, 3) := by decide +kernel
theorem dX10_lotOf_210 : decode cX10_lotOf 210 = .ok (.iconst 1, 1) := by decide +kernel
theorem dX10_lotOf_211 : decode cX10_lotOf 211 = .ok (.goto 4, 3) := by decide +kernel
theorem dX10_lotOf_214 : decode cX10_lotOf 214 = .ok (.iconst 0, 1) := by decide +kernel
theorem dX10_lotOf_215 : decode cX10_lotOf 215 = .ok (.ireturn, 1) := by decide +kernel
theorem dX10_meanAge_0 : decode cX10_meanAge 0 = .ok (.lconst 0, 1) := by decide +kernel
theorem dX10_meanAge_1 : decode cX10_meanAge 1 = .ok (.lstore_n 2, 1) := by decide +kernel
theorem dX10_meanAge_2 : decode cX10_meanAge 2 = .ok (.aload_n 0, 1) := by decide +kernel
theorem dX10_meanAge_3 : decode cX10_meanAge 3 = .ok (.getfield 28, 3) := by decide +kernel
theorem dX10_meanAge_6 : decode cX10_meanAge 6 = .ok (.iload_n 1, 1) := by decide +kernel
theorem dX10_meanAge_7 : decode cX10_meanAge 7 = .ok (.invokestatic 171, 3) := by decide +kernel
theorem dX10_meanAge_10 : decode cX10_meanAge 10 = .ok (.iaload, 1) := by decide +kernel
theorem dX10_meanAge_11 : decode cX10_meanAge 11 = .ok (.istore 4, 2) := by decide +kernel
theorem dX10_meanAge_13 : decode cX10_meanAge 13 = .ok (.iload 4, 2) := by decide +kernel
theorem dX10_meanAge_15 : decode cX10_meanAge 15 = .ok (.iconst (-1), 1) := by decide +kernel
theorem dX10_meanAge_16 : decode cX10_meanAge 16 = .ok (.if_icmp .eq 42, 3) := by decide +kernel
theorem dX10_meanAge_19 : decode cX10_meanAge 19 = .ok (.lload_n 2, 1) := by decide +kernel
theorem dX10_meanAge_20 : decode cX10_meanAge 20 = .ok (.aload_n 0, 1) := by decide +kernel
theorem dX10_meanAge_21 : decode cX10_meanAge 21 = .ok (.getfield 40, 3) := by decide +kernel
theorem dX10_meanAge_24 : decode cX10_meanAge 24 = .ok (.iload 4, 2) := by decide +kernel
theorem dX10_meanAge_26 : decode cX10_meanAge 26 = .ok (.iaload, 1) := by decide +kernel
theorem dX10_meanAge_27 : decode cX10_meanAge 27 = .ok (.i2l, 1) := by decide +kernel
theorem dX10_meanAge_28 : decode cX10_meanAge 28 = .ok (.aload_n 0, 1) := by decide +kernel
theorem dX10_meanAge_29 : decode cX10_meanAge 29 = .ok (.getfield 74, 3) := by decide +kernel
theorem dX10_meanAge_32 : decode cX10_meanAge 32 = .ok (.iload_n 1, 1) := by decide +kernel
theorem dX10_meanAge_33 : decode cX10_meanAge 33 = .ok (.iaload, 1) := by decide +kernel
theorem dX10_meanAge_34 : decode cX10_meanAge 34 = .ok (.aload_n 0, 1) := by decide +kernel
theorem dX10_meanAge_35 : decode cX10_meanAge 35 = .ok (.getfield 46, 3) := by decide +kernel
theorem dX10_meanAge_38 : decode cX10_meanAge 38 = .ok (.iload 4, 2) := by decide +kernel
theorem dX10_meanAge_40 : decode cX10_meanAge 40 = .ok (.iaload, 1) := by decide +kernel
theorem dX10_meanAge_41 : decode cX10_meanAge 41 = .ok (.isub, 1) := by decide +kernel
theorem dX10_meanAge_42 : decode cX10_meanAge 42 = .ok (.i2l, 1) := by decide +kernel
theorem dX10_meanAge_43 : decode cX10_meanAge 43 = .ok (.lmul, 1) := by decide +kernel
theorem dX10_meanAge_44 : decode cX10_meanAge 44 = .ok (.ladd, 1) := by decide +kernel
theorem dX10_meanAge_45 : decode cX10_meanAge 45 = .ok (.lstore_n 2, 1) := by decide +kernel
theorem dX10_meanAge_46 : decode cX10_meanAge 46 = .ok (.aload_n 0, 1) := by decide +kernel
theorem dX10_meanAge_47 : decode cX10_meanAge 47 = .ok (.getfield 37, 3) := by decide +kernel
theorem dX10_meanAge_50 : decode cX10_meanAge 50 = .ok (.iload 4, 2) := by decide +kernel
theorem dX10_meanAge_52 : decode cX10_meanAge 52 = .ok (.iaload, 1) := by decide +kernel
theorem dX10_meanAge_53 : decode cX10_meanAge 53 = .ok (.istore 4, 2) := by decide +kernel
theorem dX10_meanAge_55 : decode cX10_meanAge 55 = .ok (.goto (-42), 3) := by decide +kernel
theorem dX10_meanAge_58 : decode cX10_meanAge 58 = .ok (.lload_n 2, 1) := by decide +kernel
theorem dX10_meanAge_59 : decode cX10_meanAge 59 = .ok (.l2f, 1) := by decide +kernel
theorem dX10_meanAge_60 : decode cX10_meanAge 60 = .ok (.aload_n 0, 1) := by decide +kernel
theorem dX10_meanAge_61 : decode cX10_meanAge 61 = .ok (.getfield 34, 3) := by decide +kernel
theorem dX10_meanAge_64 : decode cX10_meanAge 64 = .ok (.iload_n 1, 1) := by decide +kernel
theorem dX10_meanAge_65 : decode cX10_meanAge 65 = .ok (.invokestatic 171, 3) := by decide +kernel
theorem dX10_meanAge_68 : decode cX10_meanAge 68 = .ok (.iaload, 1) := by decide +kernel
theorem dX10_meanAge_69 : decode cX10_meanAge 69 = .ok (.i2f, 1) := by decide +kernel
theorem dX10_meanAge_70 : decode cX10_meanAge 70 = .ok (.fdiv, 1) := by decide +kernel
theorem dX10_meanAge_71 : decode cX10_meanAge 71 = .ok (.freturn, 1) := by decide +kernel
theorem dX10_age_0 : decode cX10_age 0 = .ok (.aload_n 0, 1) := by decide +kernel
theorem dX10_age_1 : decode cX10_age 1 = .ok (.aload_n 0, 1) := by decide +kernel
theorem dX10_age_2 : decode cX10_age 2 = .ok (.iload_n 1, 1) := by decide +kernel
theorem dX10_age_3 : decode cX10_age 3 = .ok (.invokevirtual 180, 3) := by decide +kernel
theorem dX10_age_6 : decode cX10_age 6 = .ok (.ifCond .eq 7, 3) := by decide +kernel
theorem dX10_age_9 : decode cX10_age 9 = .ok (.iconst 0, 1) := by decide +kernel
theorem dX10_age_10 : decode cX10_age 10 = .ok (.goto 4, 3) := by decide +kernel
theorem dX10_age_13 : decode cX10_age 13 = .ok (.iconst 1, 1) := by decide +kernel
theorem dX10_age_14 : decode cX10_age 14 = .ok (.invokevirtual 107, 3) := by decide +kernel
theorem dX10_age_17 : decode cX10_age 17 = .ok (.ifCond .eq 11, 3) := by decide +kernel
theorem dX10_age_20 : decode cX10_age 20 = .ok (.aload_n 0, 1) := by decide +kernel
theorem dX10_age_21 : decode cX10_age 21 = .ok (.iload_n 1, 1) := by decide +kernel
theorem dX10_age_22 : decode cX10_age 22 = .ok (.invokevirtual 205, 3) := by decide +kernel
theorem dX10_age_25 : decode cX10_age 25 = .ok (.goto 4, 3) := by decide +kernel
theorem dX10_age_28 : decode cX10_age 28 = .ok (.fconst 0, 1) := by decide +kernel
theorem dX10_age_29 : decode cX10_age 29 = .ok (.freturn, 1) := by decide +kernel
theorem dX10_bestOf_0 : decode cX10_bestOf 0 = .ok (.aload_n 0, 1) := by decide +kernel
theorem dX10_bestOf_1 : decode cX10_bestOf 1 = .ok (.iload_n 1, 1) := by decide +kernel
theorem dX10_bestOf_2 : decode cX10_bestOf 2 = .ok (.iconst 0, 1) := by decide +kernel
theorem dX10_bestOf_3 : decode cX10_bestOf 3 = .ok (.invokevirtual 201, 3) := by decide +kernel
theorem dX10_bestOf_6 : decode cX10_bestOf 6 = .ok (.ifCond .eq 7, 3) := by decide +kernel
theorem dX10_bestOf_9 : decode cX10_bestOf 9 = .ok (.iconst 0, 1) := by decide +kernel
theorem dX10_bestOf_10 : decode cX10_bestOf 10 = .ok (.goto 17, 3) := by decide +kernel
theorem dX10_bestOf_13 : decode cX10_bestOf 13 = .ok (.aload_n 0, 1) := by decide +kernel
theorem dX10_bestOf_14 : decode cX10_bestOf 14 = .ok (.iload_n 1, 1) := by decide +kernel
theorem dX10_bestOf_15 : decode cX10_bestOf 15 = .ok (.iconst 1, 1) := by decide +kernel
theorem dX10_bestOf_16 : decode cX10_bestOf 16 = .ok (.invokevirtual 201, 3) := by decide +kernel
theorem dX10_bestOf_19 : decode cX10_bestOf 19 = .ok (.ifCond .eq 7, 3) := by decide +kernel
theorem dX10_bestOf_22 : decode cX10_bestOf 22 = .ok (.iconst 1, 1) := by decide +kernel
theorem dX10_bestOf_23 : decode cX10_bestOf 23 = .ok (.goto 4, 3) := by decide +kernel
theorem dX10_bestOf_26 : decode cX10_bestOf 26 = .ok (.iconst 2, 1) := by decide +kernel
theorem dX10_bestOf_27 : decode cX10_bestOf 27 = .ok (.ireturn, 1) := by decide +kernel
theorem dX10_best_0 : decode cX10_best 0 = .ok (.aload_n 0, 1) := by decide +kernel
theorem dX10_best_1 : decode cX10_best 1 = .ok (.aload_n 0, 1) := by decide +kernel
theorem dX10_best_2 : decode cX10_best 2 = .ok (.iload_n 1, 1) := by decide +kernel
theorem dX10_best_3 : decode cX10_best 3 = .ok (.invokevirtual 180, 3) := by decide +kernel
theorem dX10_best_6 : decode cX10_best 6 = .ok (.ifCond .eq 7, 3) := by decide +kernel
theorem dX10_best_9 : decode cX10_best 9 = .ok (.iconst 0, 1) := by decide +kernel
theorem dX10_best_10 : decode cX10_best 10 = .ok (.goto 4, 3) := by decide +kernel
theorem dX10_best_13 : decode cX10_best 13 = .ok (.iconst 1, 1) := by decide +kernel
theorem dX10_best_14 : decode cX10_best 14 = .ok (.invokevirtual 107, 3) := by decide +kernel
theorem dX10_best_17 : decode cX10_best 17 = .ok (.ifCond .eq 11, 3) := by decide +kernel
theorem dX10_best_20 : decode cX10_best 20 = .ok (.aload_n 0, 1) := by decide +kernel
theorem dX10_best_21 : decode cX10_best 21 = .ok (.iload_n 1, 1) := by decide +kernel
theorem dX10_best_22 : decode cX10_best 22 = .ok (.invokevirtual 209, 3) := by decide +kernel
theorem dX10_best_25 : decode cX10_best 25 = .ok (.goto 4, 3) := by decide +kernel
theorem dX10_best_28 : decode cX10_best 28 = .ok (.iconst 0, 1) := by decide +kernel
theorem dX10_best_29 : decode cX10_best 29 = .ok (.ireturn, 1) := by decide +kernel
theorem dX10_fromOf_0 : decode cX10_fromOf 0 = .ok (.iconst 0, 1) := by decide +kernel
theorem dX10_fromOf_1 : decode cX10_fromOf 1 = .ok (.istore 4, 2) := by decide +kernel
theorem dX10_fromOf_3 : decode cX10_fromOf 3 = .ok (.aload_n 0, 1) := by decide +kernel
theorem dX10_fromOf_4 : decode cX10_fromOf 4 = .ok (.getfield 28, 3) := by decide +kernel
theorem dX10_fromOf_7 : decode cX10_fromOf 7 = .ok (.iload_n 1, 1) := by decide +kernel
theorem dX10_fromOf_8 : decode cX10_fromOf 8 = .ok (.invokestatic 171, 3) := by decide +kernel
theorem dX10_fromOf_11 : decode cX10_fromOf 11 = .ok (.iaload, 1) := by decide +kernel
theorem dX10_fromOf_12 : decode cX10_fromOf 12 = .ok (.istore 5, 2) := by decide +kernel
theorem dX10_fromOf_14 : decode cX10_fromOf 14 = .ok (.iload 5, 2) := by decide +kernel
theorem dX10_fromOf_16 : decode cX10_fromOf 16 = .ok (.iconst (-1), 1) := by decide +kernel
theorem dX10_fromOf_17 : decode cX10_fromOf 17 = .ok (.if_icmp .eq 53, 3) := by decide +kernel
theorem dX10_fromOf_20 : decode cX10_fromOf 20 = .ok (.iload 4, 2) := by decide +kernel
theorem dX10_fromOf_22 : decode cX10_fromOf 22 = .ok (.aload_n 0, 1) := by decide +kernel
theorem dX10_fromOf_23 : decode cX10_fromOf 23 = .ok (.getfield 43, 3) := by decide +kernel
theorem dX10_fromOf_26 : decode cX10_fromOf 26 = .ok (.iload 5, 2) := by decide +kernel
theorem dX10_fromOf_28 : decode cX10_fromOf 28 = .ok (.iaload, 1) := by decide +kernel
theorem dX10_fromOf_29 : decode cX10_fromOf 29 = .ok (.iload_n 2, 1) := by decide +kernel
theorem dX10_fromOf_30 : decode cX10_fromOf 30 = .ok (.if_icmp .ne 24, 3) := by decide +kernel
theorem dX10_fromOf_33 : decode cX10_fromOf 33 = .ok (.aload_n 0, 1) := by decide +kernel
theorem dX10_fromOf_34 : decode cX10_fromOf 34 = .ok (.getfield 46, 3) := by decide +kernel
theorem dX10_fromOf_37 : decode cX10_fromOf 37 = .ok (.iload 5, 2) := by decide +kernel
theorem dX10_fromOf_39 : decode cX10_fromOf 39 = .ok (.iaload, 1) := by decide +kernel
theorem dX10_fromOf_40 : decode cX10_fromOf 40 = .ok (.iload_n 3, 1) := by decide +kernel
theorem dX10_fromOf_41 : decode cX10_fromOf 41 = .ok (.if_icmp .ne 13, 3) := by decide +kernel
theorem dX10_fromOf_44 : decode cX10_fromOf 44 = .ok (.aload_n 0, 1) := by decide +kernel
theorem dX10_fromOf_45 : decode cX10_fromOf 45 = .ok (.getfield 40, 3) := by decide +kernel
theorem dX10_fromOf_48 : decode cX10_fromOf 48 = .ok (.iload 5, 2) := by decide +kernel
theorem dX10_fromOf_50 : decode cX10_fromOf 50 = .ok (.iaload, 1) := by decide +kernel
theorem dX10_fromOf_51 : decode cX10_fromOf 51 = .ok (.goto 4, 3) := by decide +kernel
theorem dX10_fromOf_54 : decode cX10_fromOf 54 = .ok (.iconst 0, 1) := by decide +kernel
theorem dX10_fromOf_55 : decode cX10_fromOf 55 = .ok (.iadd, 1) := by decide +kernel
theorem dX10_fromOf_56 : decode cX10_fromOf 56 = .ok (.istore 4, 2) := by decide +kernel
theorem dX10_fromOf_58 : decode cX10_fromOf 58 = .ok (.aload_n 0, 1) := by decide +kernel
theorem dX10_fromOf_59 : decode cX10_fromOf 59 = .ok (.getfield 37, 3) := by decide +kernel
theorem dX10_fromOf_62 : decode cX10_fromOf 62 = .ok (.iload 5, 2) := by decide +kernel
theorem dX10_fromOf_64 : decode cX10_fromOf 64 = .ok (.iaload, 1) := by decide +kernel
theorem dX10_fromOf_65 : decode cX10_fromOf 65 = .ok (.istore 5, 2) := by decide +kernel
theorem dX10_fromOf_67 : decode cX10_fromOf 67 = .ok (.goto (-53), 3) := by decide +kernel
theorem dX10_fromOf_70 : decode cX10_fromOf 70 = .ok (.iload 4, 2) := by decide +kernel
theorem dX10_fromOf_72 : decode cX10_fromOf 72 = .ok (.ireturn, 1) := by decide +kernel
theorem dX10_from_0 : decode cX10_from 0 = .ok (.aload_n 0, 1) := by decide +kernel
theorem dX10_from_1 : decode cX10_from 1 = .ok (.aload_n 0, 1) := by decide +kernel
theorem dX10_from_2 : decode cX10_from 2 = .ok (.iload_n 1, 1) := by decide +kernel
theorem dX10_from_3 : decode cX10_from 3 = .ok (.invokevirtual 180, 3) := by decide +kernel
theorem dX10_from_6 : decode cX10_from 6 = .ok (.ifCond .eq 14, 3) := by decide +kernel
theorem dX10_from_9 : decode cX10_from 9 = .ok (.iload_n 2, 1) := by decide +kernel
theorem dX10_from_10 : decode cX10_from 10 = .ok (.invokestatic 103, 3) := by decide +kernel
theorem dX10_from_13 : decode cX10_from 13 = .ok (.ifCond .eq 7, 3) := by decide +kernel
theorem dX10_from_16 : decode cX10_from 16 = .ok (.iconst 0, 1) := by decide +kernel
theorem dX10_from_17 : decode cX10_from 17 = .ok (.goto 4, 3) := by decide +kernel
theorem dX10_from_20 : decode cX10_from 20 = .ok (.iconst 1, 1) := by decide +kernel
theorem dX10_from_21 : decode cX10_from 21 = .ok (.invokevirtual 107, 3) := by decide +kernel
theorem dX10_from_24 : decode cX10_from 24 = .ok (.ifCond .eq 13, 3) := by decide +kernel
theorem dX10_from_27 : decode cX10_from 27 = .ok (.aload_n 0, 1) := by decide +kernel
theorem dX10_from_28 : decode cX10_from 28 = .ok (.iload_n 1, 1) := by decide +kernel
theorem dX10_from_29 : decode cX10_from 29 = .ok (.iload_n 2, 1) := by decide +kernel
theorem dX10_from_30 : decode cX10_from 30 = .ok (.iload_n 3, 1) := by decide +kernel
theorem dX10_from_31 : decode cX10_from 31 = .ok (.invokevirtual 212, 3) := by decide +kernel
theorem dX10_from_34 : decode cX10_from 34 = .ok (.goto 4, 3) := by decide +kernel
theorem dX10_from_37 : decode cX10_from 37 = .ok (.iconst 0, 1) := by decide +kernel
theorem dX10_from_38 : decode cX10_from 38 = .ok (.ireturn, 1) := by decide +kernel
theorem dX10_fromAnew_0 : decode cX10_fromAnew 0 = .ok (.aload_n 0, 1) := by decide +kernel
theorem dX10_fromAnew_1 : decode cX10_fromAnew 1 = .ok (.aload_n 0, 1) := by decide +kernel
theorem dX10_fromAnew_2 : decode cX10_fromAnew 2 = .ok (.iload_n 1, 1) := by decide +kernel
theorem dX10_fromAnew_3 : decode cX10_fromAnew 3 = .ok (.invokevirtual 180, 3) := by decide +kernel
theorem dX10_fromAnew_6 : decode cX10_fromAnew 6 = .ok (.ifCond .eq 14, 3) := by decide +kernel
theorem dX10_fromAnew_9 : decode cX10_fromAnew 9 = .ok (.iload_n 2, 1) := by decide +kernel
theorem dX10_fromAnew_10 : decode cX10_fromAnew 10 = .ok (.invokestatic 103, 3) := by decide +kernel
theorem dX10_fromAnew_13 : decode cX10_fromAnew 13 = .ok (.ifCond .eq 7, 3) := by decide +kernel
theorem dX10_fromAnew_16 : decode cX10_fromAnew 16 = .ok (.iconst 0, 1) := by decide +kernel
theorem dX10_fromAnew_17 : decode cX10_fromAnew 17 = .ok (.goto 4, 3) := by decide +kernel
theorem dX10_fromAnew_20 : decode cX10_fromAnew 20 = .ok (.iconst 1, 1) := by decide +kernel
theorem dX10_fromAnew_21 : decode cX10_fromAnew 21 = .ok (.invokevirtual 107, 3) := by decide +kernel
theorem dX10_fromAnew_24 : decode cX10_fromAnew 24 = .ok (.ifCond .eq 13, 3) := by decide +kernel
theorem dX10_fromAnew_27 : decode cX10_fromAnew 27 = .ok (.aload_n 0, 1) := by decide +kernel
theorem dX10_fromAnew_28 : decode cX10_fromAnew 28 = .ok (.iload_n 1, 1) := by decide +kernel
theorem dX10_fromAnew_29 : decode cX10_fromAnew 29 = .ok (.iload_n 2, 1) := by decide +kernel
theorem dX10_fromAnew_30 : decode cX10_fromAnew 30 = .ok (.iload_n 3, 1) := by decide +kernel
theorem dX10_fromAnew_31 : decode cX10_fromAnew 31 = .ok (.invokevirtual 212, 3) := by decide +kernel
theorem dX10_fromAnew_34 : decode cX10_fromAnew 34 = .ok (.goto 4, 3) := by decide +kernel
theorem dX10_fromAnew_37 : decode cX10_fromAnew 37 = .ok (.iconst 0, 1) := by decide +kernel
theorem dX10_fromAnew_38 : decode cX10_fromAnew 38 = .ok (.ireturn, 1) := by decide +kernel
theorem dX10_whenceOf_0 : decode cX10_whenceOf 0 = .ok (.iconst (-1), 1) := by decide +kernel
theorem dX10_whenceOf_1 : decode cX10_whenceOf 1 = .ok (.istore_n 3, 1) := by decide +kernel
theorem dX10_whenceOf_2 : decode cX10_whenceOf 2 = .ok (.aload_n 0, 1) := by decide +kernel
theorem dX10_whenceOf_3 : decode cX10_whenceOf 3 = .ok (.getfield 28, 3) := by decide +kernel
theorem dX10_whenceOf_6 : decode cX10_whenceOf 6 = .ok (.iload_n 1, 1) := by decide +kernel
theorem dX10_whenceOf_7 : decode cX10_whenceOf 7 = .ok (.invokestatic 171, 3) := by decide +kernel
theorem dX10_whenceOf_10 : decode cX10_whenceOf 10 = .ok (.iaload, 1) := by decide +kernel
theorem dX10_whenceOf_11 : decode cX10_whenceOf 11 = .ok (.istore 4, 2) := by decide +kernel
theorem dX10_whenceOf_13 : decode cX10_whenceOf 13 = .ok (.iload 4, 2) := by decide +kernel
theorem dX10_whenceOf_15 : decode cX10_whenceOf 15 = .ok (.iconst (-1), 1) := by decide +kernel
theorem dX10_whenceOf_16 : decode cX10_whenceOf 16 = .ok (.if_icmp .eq 114, 3) := by decide +kernel
theorem dX10_whenceOf_19 : decode cX10_whenceOf 19 = .ok (.aload_n 0, 1) := by decide +kernel
theorem dX10_whenceOf_20 : decode cX10_whenceOf 20 = .ok (.getfield 52, 3) := by decide +kernel
theorem dX10_whenceOf_23 : decode cX10_whenceOf 23 = .ok (.iload 4, 2) := by decide +kernel
theorem dX10_whenceOf_25 : decode cX10_whenceOf 25 = .ok (.iaload, 1) := by decide +kernel
theorem dX10_whenceOf_26 : decode cX10_whenceOf 26 = .ok (.iload_n 2, 1) := by decide +kernel
theorem dX10_whenceOf_27 : decode cX10_whenceOf 27 = .ok (.ishr, 1) := by decide +kernel
theorem dX10_whenceOf_28 : decode cX10_whenceOf 28 = .ok (.iconst 1, 1) := by decide +kernel
theorem dX10_whenceOf_29 : decode cX10_whenceOf 29 = .ok (.iand, 1) := by decide +kernel
theorem dX10_whenceOf_30 : decode cX10_whenceOf 30 = .ok (.iconst 1, 1) := by decide +kernel
theorem dX10_whenceOf_31 : decode cX10_whenceOf 31 = .ok (.if_icmp .ne 7, 3) := by decide +kernel
theorem dX10_whenceOf_34 : decode cX10_whenceOf 34 = .ok (.iconst 1, 1) := by decide +kernel
theorem dX10_whenceOf_35 : decode cX10_whenceOf 35 = .ok (.goto 4, 3) := by decide +kernel
theorem dX10_whenceOf_38 : decode cX10_whenceOf 38 = .ok (.iconst 0, 1) := by decide +kernel
theorem dX10_whenceOf_39 : decode cX10_whenceOf 39 = .ok (.istore 5, 2) := by decide +kernel
theorem dX10_whenceOf_41 : decode cX10_whenceOf 41 = .ok (.iload_n 3, 1) := by decide +kernel
theorem dX10_whenceOf_42 : decode cX10_whenceOf 42 = .ok (.iconst (-1), 1) := by decide +kernel
theorem dX10_whenceOf_43 : decode cX10_whenceOf 43 = .ok (.if_icmp .eq 51, 3) := by decide +kernel
theorem dX10_whenceOf_46 : decode cX10_whenceOf 46 = .ok (.aload_n 0, 1) := by decide +kernel
theorem dX10_whenceOf_47 : decode cX10_whenceOf 47 = .ok (.getfield 46, 3) := by decide +kernel
theorem dX10_whenceOf_50 : decode cX10_whenceOf 50 = .ok (.iload 4, 2) := by decide +kernel
theorem dX10_whenceOf_52 : decode cX10_whenceOf 52 = .ok (.iaload, 1) := by decide +kernel
theorem dX10_whenceOf_53 : decode cX10_whenceOf 53 = .ok (.aload_n 0, 1) := by decide +kernel
theorem dX10_whenceOf_54 : decode cX10_whenceOf 54 = .ok (.getfield 46, 3) := by decide +kernel
theorem dX10_whenceOf_57 : decode cX10_whenceOf 57 = .ok (.iload_n 3, 1) := by decide +kernel
theorem dX10_whenceOf_58 : decode cX10_whenceOf 58 = .ok (.iaload, 1) := by decide +kernel
theorem dX10_whenceOf_59 : decode cX10_whenceOf 59 = .ok (.if_icmp .lt 35, 3) := by decide +kernel
theorem dX10_whenceOf_62 : decode cX10_whenceOf 62 = .ok (.aload_n 0, 1) := by decide +kernel
theorem dX10_whenceOf_63 : decode cX10_whenceOf 63 = .ok (.getfield 46, 3) := by decide +kernel
theorem dX10_whenceOf_66 : decode cX10_whenceOf 66 = .ok (.iload 4, 2) := by decide +kernel
theorem dX10_whenceOf_68 : decode cX10_whenceOf 68 = .ok (.iaload, 1) := by decide +kernel
theorem dX10_whenceOf_69 : decode cX10_whenceOf 69 = .ok (.aload_n 0, 1) := by decide +kernel
theorem dX10_whenceOf_70 : decode cX10_whenceOf 70 = .ok (.getfield 46, 3) := by decide +kernel
theorem dX10_whenceOf_73 : decode cX10_whenceOf 73 = .ok (.iload_n 3, 1) := by decide +kernel
theorem dX10_whenceOf_74 : decode cX10_whenceOf 74 = .ok (.iaload, 1) := by decide +kernel
theorem dX10_whenceOf_75 : decode cX10_whenceOf 75 = .ok (.if_icmp .ne 23, 3) := by decide +kernel
theorem dX10_whenceOf_78 : decode cX10_whenceOf 78 = .ok (.aload_n 0, 1) := by decide +kernel
theorem dX10_whenceOf_79 : decode cX10_whenceOf 79 = .ok (.getfield 43, 3) := by decide +kernel
theorem dX10_whenceOf_82 : decode cX10_whenceOf 82 = .ok (.iload 4, 2) := by decide +kernel
theorem dX10_whenceOf_84 : decode cX10_whenceOf 84 = .ok (.iaload, 1) := by decide +kernel
theorem dX10_whenceOf_85 : decode cX10_whenceOf 85 = .ok (.aload_n 0, 1) := by decide +kernel
theorem dX10_whenceOf_86 : decode cX10_whenceOf 86 = .ok (.getfield 43, 3) := by decide +kernel
theorem dX10_whenceOf_89 : decode cX10_whenceOf 89 = .ok (.iload_n 3, 1) := by decide +kernel
theorem dX10_whenceOf_90 : decode cX10_whenceOf 90 = .ok (.iaload, 1) := by decide +kernel
theorem dX10_whenceOf_91 : decode cX10_whenceOf 91 = .ok (.if_icmp .ge 7, 3) := by decide +kernel
theorem dX10_whenceOf_94 : decode cX10_whenceOf 94 = .ok (.iconst 1, 1) := by decide +kernel
theorem dX10_whenceOf_95 : decode cX10_whenceOf 95 = .ok (.goto 4, 3) := by decide +kernel
theorem dX10_whenceOf_98 : decode cX10_whenceOf 98 = .ok (.iconst 0, 1) := by decide +kernel
theorem dX10_whenceOf_99 : decode cX10_whenceOf 99 = .ok (.istore 6, 2) := by decide +kernel
theorem dX10_whenceOf_101 : decode cX10_whenceOf 101 = .ok (.iload 5, 2) := by decide +kernel
theorem dX10_whenceOf_103 : decode cX10_whenceOf 103 = .ok (.ifCond .eq 13, 3) := by decide +kernel
theorem dX10_whenceOf_106 : decode cX10_whenceOf 106 = .ok (.iload 6, 2) := by decide +kernel
theorem dX10_whenceOf_108 : decode cX10_whenceOf 108 = .ok (.ifCond .eq 8, 3) := by decide +kernel
theorem dX10_whenceOf_111 : decode cX10_whenceOf 111 = .ok (.iload 4, 2) := by decide +kernel
theorem dX10_whenceOf_113 : decode cX10_whenceOf 113 = .ok (.goto 4, 3) := by decide +kernel
theorem dX10_whenceOf_116 : decode cX10_whenceOf 116 = .ok (.iload_n 3, 1) := by decide +kernel
theorem dX10_whenceOf_117 : decode cX10_whenceOf 117 = .ok (.istore_n 3, 1) := by decide +kernel
theorem dX10_whenceOf_118 : decode cX10_whenceOf 118 = .ok (.aload_n 0, 1) := by decide +kernel
theorem dX10_whenceOf_119 : decode cX10_whenceOf 119 = .ok (.getfield 37, 3) := by decide +kernel
theorem dX10_whenceOf_122 : decode cX10_whenceOf 122 = .ok (.iload 4, 2) := by decide +kernel
theorem dX10_whenceOf_124 : decode cX10_whenceOf 124 = .ok (.iaload, 1) := by decide +kernel
theorem dX10_whenceOf_125 : decode cX10_whenceOf 125 = .ok (.istore 4, 2) := by decide +kernel
theorem dX10_whenceOf_127 : decode cX10_whenceOf 127 = .ok (.goto (-114), 3) := by decide +kernel
theorem dX10_whenceOf_130 : decode cX10_whenceOf 130 = .ok (.iload_n 3, 1) := by decide +kernel
theorem dX10_whenceOf_131 : decode cX10_whenceOf 131 = .ok (.iconst (-1), 1) := by decide +kernel
theorem dX10_whenceOf_132 : decode cX10_whenceOf 132 = .ok (.if_icmp .ne 7, 3) := by decide +kernel
theorem dX10_whenceOf_135 : decode cX10_whenceOf 135 = .ok (.iconst (-1), 1) := by decide +kernel
theorem dX10_whenceOf_136 : decode cX10_whenceOf 136 = .ok (.goto 20, 3) := by decide +kernel
theorem dX10_whenceOf_139 : decode cX10_whenceOf 139 = .ok (.sipush 1000, 3) := by decide +kernel
theorem dX10_whenceOf_142 : decode cX10_whenceOf 142 = .ok (.aload_n 0, 1) := by decide +kernel
theorem dX10_whenceOf_143 : decode cX10_whenceOf 143 = .ok (.getfield 43, 3) := by decide +kernel
theorem dX10_whenceOf_146 : decode cX10_whenceOf 146 = .ok (.iload_n 3, 1) := by decide +kernel
theorem dX10_whenceOf_147 : decode cX10_whenceOf 147 = .ok (.iaload, 1) := by decide +kernel
theorem dX10_whenceOf_148 : decode cX10_whenceOf 148 = .ok (.imul, 1) := by decide +kernel
theorem dX10_whenceOf_149 : decode cX10_whenceOf 149 = .ok (.aload_n 0, 1) := by decide +kernel
theorem dX10_whenceOf_150 : decode cX10_whenceOf 150 = .ok (.getfield 46, 3) := by decide +kernel
theorem dX10_whenceOf_153 : decode cX10_whenceOf 153 = .ok (.iload_n 3, 1) := by decide +kernel
theorem dX10_whenceOf_154 : decode cX10_whenceOf 154 = .ok (.iaload, 1) := by decide +kernel
theorem dX10_whenceOf_155 : decode cX10_whenceOf 155 = .ok (.iadd, 1) := by decide +kernel
theorem dX10_whenceOf_156 : decode cX10_whenceOf 156 = .ok (.ireturn, 1) := by decide +kernel
theorem dX10_whence_0 : decode cX10_whence 0 = .ok (.aload_n 0, 1) := by decide +kernel
theorem dX10_whence_1 : decode cX10_whence 1 = .ok (.aload_n 0, 1) := by decide +kernel
theorem dX10_whence_2 : decode cX10_whence 2 = .ok (.iload_n 1, 1) := by decide +kernel
theorem dX10_whence_3 : decode cX10_whence 3 = .ok (.invokevirtual 180, 3) := by decide +kernel
theorem dX10_whence_6 : decode cX10_whence 6 = .ok (.ifCond .eq 14, 3) := by decide +kernel
theorem dX10_whence_9 : decode cX10_whence 9 = .ok (.iload_n 2, 1) := by decide +kernel
theorem dX10_whence_10 : decode cX10_whence 10 = .ok (.invokestatic 110, 3) := by decide +kernel
theorem dX10_whence_13 : decode cX10_whence 13 = .ok (.ifCond .eq 7, 3) := by decide +kernel
theorem dX10_whence_16 : decode cX10_whence 16 = .ok (.iconst 0, 1) := by decide +kernel
theorem dX10_whence_17 : decode cX10_whence 17 = .ok (.goto 4, 3) := by decide +kernel
theorem dX10_whence_20 : decode cX10_whence 20 = .ok (.iconst 1, 1) := by decide +kernel
theorem dX10_whence_21 : decode cX10_whence 21 = .ok (.invokevirtual 107, 3) := by decide +kernel
theorem dX10_whence_24 : decode cX10_whence 24 = .ok (.ifCond .eq 12, 3) := by decide +kernel
theorem dX10_whence_27 : decode cX10_whence 27 = .ok (.aload_n 0, 1) := by decide +kernel
theorem dX10_whence_28 : decode cX10_whence 28 = .ok (.iload_n 1, 1) := by decide +kernel
theorem dX10_whence_29 : decode cX10_whence 29 = .ok (.iload_n 2, 1) := by decide +kernel
theorem dX10_whence_30 : decode cX10_whence 30 = .ok (.invokevirtual 216, 3) := by decide +kernel
theorem dX10_whence_33 : decode cX10_whence 33 = .ok (.goto 4, 3) := by decide +kernel
theorem dX10_whence_36 : decode cX10_whence 36 = .ok (.iconst 0, 1) := by decide +kernel
theorem dX10_whence_37 : decode cX10_whence 37 = .ok (.ireturn, 1) := by decide +kernel
theorem dX10_held_0 : decode cX10_held 0 = .ok (.lconst 0, 1) := by decide +kernel
theorem dX10_held_1 : decode cX10_held 1 = .ok (.lstore_n 1, 1) := by decide +kernel
theorem dX10_held_2 : decode cX10_held 2 = .ok (.iconst 0, 1) := by decide +kernel
theorem dX10_held_3 : decode cX10_held 3 = .ok (.istore_n 3, 1) := by decide +kernel
theorem dX10_held_4 : decode cX10_held 4 = .ok (.iload_n 3, 1) := by decide +kernel
theorem dX10_held_5 : decode cX10_held 5 = .ok (.bipush 10, 2) := by decide +kernel
theorem dX10_held_7 : decode cX10_held 7 = .ok (.if_icmp .ge 19, 3) := by decide +kernel
theorem dX10_held_10 : decode cX10_held 10 = .ok (.lload_n 1, 1) := by decide +kernel
theorem dX10_held_11 : decode cX10_held 11 = .ok (.aload_n 0, 1) := by decide +kernel
theorem dX10_held_12 : decode cX10_held 12 = .ok (.getfield 34, 3) := by decide +kernel
theorem dX10_held_15 : decode cX10_held 15 = .ok (.iload_n 3, 1) := by decide +kernel
theorem dX10_held_16 : decode cX10_held 16 = .ok (.iaload, 1) := by decide +kernel
theorem dX10_held_17 : decode cX10_held 17 = .ok (.i2l, 1) := by decide +kernel
theorem dX10_held_18 : decode cX10_held 18 = .ok (.ladd, 1) := by decide +kernel
theorem dX10_held_19 : decode cX10_held 19 = .ok (.lstore_n 1, 1) := by decide +kernel
theorem dX10_held_20 : decode cX10_held 20 = .ok (.iinc 3 1, 3) := by decide +kernel
theorem dX10_held_23 : decode cX10_held 23 = .ok (.goto (-19), 3) := by decide +kernel
theorem dX10_held_26 : decode cX10_held 26 = .ok (.lload_n 1, 1) := by decide +kernel
theorem dX10_held_27 : decode cX10_held 27 = .ok (.lreturn, 1) := by decide +kernel
theorem dX10_falseOnes_0 : decode cX10_falseOnes 0 = .ok (.lconst 0, 1) := by decide +kernel
theorem dX10_falseOnes_1 : decode cX10_falseOnes 1 = .ok (.lstore_n 1, 1) := by decide +kernel
theorem dX10_falseOnes_2 : decode cX10_falseOnes 2 = .ok (.iconst 0, 1) := by decide +kernel
theorem dX10_falseOnes_3 : decode cX10_falseOnes 3 = .ok (.istore_n 3, 1) := by decide +kernel
theorem dX10_falseOnes_4 : decode cX10_falseOnes 4 = .ok (.iload_n 3, 1) := by decide +kernel
theorem dX10_falseOnes_5 : decode cX10_falseOnes 5 = .ok (.aload_n 0, 1) := by decide +kernel
theorem dX10_falseOnes_6 : decode cX10_falseOnes 6 = .ok (.getfield 100, 3) := by decide +kernel
theorem dX10_falseOnes_9 : decode cX10_falseOnes 9 = .ok (.if_icmp .ge 36, 3) := by decide +kernel
theorem dX10_falseOnes_12 : decode cX10_falseOnes 12 = .ok (.lload_n 1, 1) := by decide +kernel
theorem dX10_falseOnes_13 : decode cX10_falseOnes 13 = .ok (.aload_n 0, 1) := by decide +kernel
theorem dX10_falseOnes_14 : decode cX10_falseOnes 14 = .ok (.getfield 80, 3) := by decide +kernel
theorem dX10_falseOnes_17 : decode cX10_falseOnes 17 = .ok (.iload_n 3, 1) := by decide +kernel
theorem dX10_falseOnes_18 : decode cX10_falseOnes 18 = .ok (.iaload, 1) := by decide +kernel
theorem dX10_falseOnes_19 : decode cX10_falseOnes 19 = .ok (.iconst (-1), 1) := by decide +kernel
theorem dX10_falseOnes_20 : decode cX10_falseOnes 20 = .ok (.if_icmp .eq 16, 3) := by decide +kernel
theorem dX10_falseOnes_23 : decode cX10_falseOnes 23 = .ok (.aload_n 0, 1) := by decide +kernel
theorem dX10_falseOnes_24 : decode cX10_falseOnes 24 = .ok (.getfield 83, 3) := by decide +kernel
theorem dX10_falseOnes_27 : decode cX10_falseOnes 27 = .ok (.iload_n 3, 1) := by decide +kernel
theorem dX10_falseOnes_28 : decode cX10_falseOnes 28 = .ok (.baload, 1) := by decide +kernel
theorem dX10_falseOnes_29 : decode cX10_falseOnes 29 = .ok (.ifCond .ne 7, 3) := by decide +kernel
theorem dX10_falseOnes_32 : decode cX10_falseOnes 32 = .ok (.lconst 1, 1) := by decide +kernel
theorem dX10_falseOnes_33 : decode cX10_falseOnes 33 = .ok (.goto 4, 3) := by decide +kernel
theorem dX10_falseOnes_36 : decode cX10_falseOnes 36 = .ok (.lconst 0, 1) := by decide +kernel
theorem dX10_falseOnes_37 : decode cX10_falseOnes 37 = .ok (.ladd, 1) := by decide +kernel
theorem dX10_falseOnes_38 : decode cX10_falseOnes 38 = .ok (.lstore_n 1, 1) := by decide +kernel
theorem dX10_falseOnes_39 : decode cX10_falseOnes 39 = .ok (.iinc 3 1, 3) := by decide +kernel
theorem dX10_falseOnes_42 : decode cX10_falseOnes 42 = .ok (.goto (-38), 3) := by decide +kernel
theorem dX10_falseOnes_45 : decode cX10_falseOnes 45 = .ok (.lload_n 1, 1) := by decide +kernel
theorem dX10_falseOnes_46 : decode cX10_falseOnes 46 = .ok (.lreturn, 1) := by decide +kernel
theorem dX10_sum_0 : decode cX10_sum 0 = .ok (.aload_n 0, 1) := by decide +kernel
theorem dX10_sum_1 : decode cX10_sum 1 = .ok (.iload_n 1, 1) := by decide +kernel
theorem dX10_sum_2 : decode cX10_sum 2 = .ok (.iconst 0, 1) := by decide +kernel
theorem dX10_sum_3 : decode cX10_sum 3 = .ok (.bipush 6, 2) := by decide +kernel
theorem dX10_sum_5 : decode cX10_sum 5 = .ok (.invokestatic 93, 3) := by decide +kernel
theorem dX10_sum_8 : decode cX10_sum 8 = .ok (.ifCond .eq 7, 3) := by decide +kernel
theorem dX10_sum_11 : decode cX10_sum 11 = .ok (.iconst 0, 1) := by decide +kernel
theorem dX10_sum_12 : decode cX10_sum 12 = .ok (.goto 4, 3) := by decide +kernel
theorem dX10_sum_15 : decode cX10_sum 15 = .ok (.iconst 1, 1) := by decide +kernel
theorem dX10_sum_16 : decode cX10_sum 16 = .ok (.invokevirtual 107, 3) := by decide +kernel
theorem dX10_sum_19 : decode cX10_sum 19 = .ok (.ifCond .ne 5, 3) := by decide +kernel
theorem dX10_sum_22 : decode cX10_sum 22 = .ok (.lconst 0, 1) := by decide +kernel
theorem dX10_sum_23 : decode cX10_sum 23 = .ok (.lreturn, 1) := by decide +kernel
theorem dX10_sum_24 : decode cX10_sum 24 = .ok (.iload_n 1, 1) := by decide +kernel
theorem dX10_sum_25 : decode cX10_sum 25 = .ok (.tableswitch 69 0 5 #[39, 44, 49, 54, 59, 64], 39) := by decide +kernel
theorem dX10_sum_64 : decode cX10_sum 64 = .ok (.aload_n 0, 1) := by decide +kernel
theorem dX10_sum_65 : decode cX10_sum 65 = .ok (.getfield 134, 3) := by decide +kernel
theorem dX10_sum_68 : decode cX10_sum 68 = .ok (.lreturn, 1) := by decide +kernel
theorem dX10_sum_69 : decode cX10_sum 69 = .ok (.aload_n 0, 1) := by decide +kernel
theorem dX10_sum_70 : decode cX10_sum 70 = .ok (.invokevirtual 219, 3) := by decide +kernel
theorem dX10_sum_73 : decode cX10_sum 73 = .ok (.lreturn, 1) := by decide +kernel
theorem dX10_sum_74 : decode cX10_sum 74 = .ok (.aload_n 0, 1) := by decide +kernel
theorem dX10_sum_75 : decode cX10_sum 75 = .ok (.getfield 142, 3) := by decide +kernel
theorem dX10_sum_78 : decode cX10_sum 78 = .ok (.lreturn, 1) := by decide +kernel
theorem dX10_sum_79 : decode cX10_sum 79 = .ok (.aload_n 0, 1) := by decide +kernel
theorem dX10_sum_80 : decode cX10_sum 80 = .ok (.getfield 174, 3) := by decide +kernel
theorem dX10_sum_83 : decode cX10_sum 83 = .ok (.lreturn, 1) := by decide +kernel
theorem dX10_sum_84 : decode cX10_sum 84 = .ok (.aload_n 0, 1) := by decide +kernel
theorem dX10_sum_85 : decode cX10_sum 85 = .ok (.getfield 148, 3) := by decide +kernel
theorem dX10_sum_88 : decode cX10_sum 88 = .ok (.lreturn, 1) := by decide +kernel
theorem dX10_sum_89 : decode cX10_sum 89 = .ok (.aload_n 0, 1) := by decide +kernel
theorem dX10_sum_90 : decode cX10_sum 90 = .ok (.getfield 177, 3) := by decide +kernel
theorem dX10_sum_93 : decode cX10_sum 93 = .ok (.lreturn, 1) := by decide +kernel
theorem dX10_sum_94 : decode cX10_sum 94 = .ok (.aload_n 0, 1) := by decide +kernel
theorem dX10_sum_95 : decode cX10_sum 95 = .ok (.invokevirtual 223, 3) := by decide +kernel
theorem dX10_sum_98 : decode cX10_sum 98 = .ok (.lreturn, 1) := by decide +kernel
theorem dJ9_max_7cf53_0 : decode cJ9_max_7cf53 0 = .ok (.iload_n 0, 1) := by decide +kernel
theorem dJ9_max_7cf53_1 : decode cJ9_max_7cf53 1 = .ok (.iload_n 1, 1) := by decide +kernel
theorem dJ9_max_7cf53_2 : decode cJ9_max_7cf53 2 = .ok (.if_icmp .lt 7, 3) := by decide +kernel
theorem dJ9_max_7cf53_5 : decode cJ9_max_7cf53 5 = .ok (.iload_n 0, 1) := by decide +kernel
theorem dJ9_max_7cf53_6 : decode cJ9_max_7cf53 6 = .ok (.goto 4, 3) := by decide +kernel
theorem dJ9_max_7cf53_9 : decode cJ9_max_7cf53 9 = .ok (.iload_n 1, 1) := by decide +kernel
theorem dJ9_max_7cf53_10 : decode cJ9_max_7cf53 10 = .ok (.ireturn, 1) := by decide +kernel
theorem dJ9_min_7cf53_0 : decode cJ9_min_7cf53 0 = .ok (.iload_n 0, 1) := by decide +kernel
theorem dJ9_min_7cf53_1 : decode cJ9_min_7cf53 1 = .ok (.iload_n 1, 1) := by decide +kernel
theorem dJ9_min_7cf53_2 : decode cJ9_min_7cf53 2 = .ok (.if_icmp .gt 7, 3) := by decide +kernel
theorem dJ9_min_7cf53_5 : decode cJ9_min_7cf53 5 = .ok (.iload_n 0, 1) := by decide +kernel
theorem dJ9_min_7cf53_6 : decode cJ9_min_7cf53 6 = .ok (.goto 4, 3) := by decide +kernel
theorem dJ9_min_7cf53_9 : decode cJ9_min_7cf53 9 = .ok (.iload_n 1, 1) := by decide +kernel
theorem dJ9_min_7cf53_10 : decode cJ9_min_7cf53 10 = .ok (.ireturn, 1) := by decide +kernel
theorem dL_rock_0 : decode cL_rock 0 = .ok (.aload_n 3, 1) := by decide +kernel
theorem dL_rock_1 : decode cL_rock 1 = .ok (.iconst 0, 1) := by decide +kernel
theorem dL_rock_2 : decode cL_rock 2 = .ok (.aload_n 0, 1) := by decide +kernel
theorem dL_rock_3 : decode cL_rock 3 = .ok (.iload_n 1, 1) := by decide +kernel
theorem dL_rock_4 : decode cL_rock 4 = .ok (.iload_n 2, 1) := by decide +kernel
theorem dL_rock_5 : decode cL_rock 5 = .ok (.invokevirtual 7, 3) := by decide +kernel
theorem dL_rock_8 : decode cL_rock 8 = .ok (.i2l, 1) := by decide +kernel
theorem dL_rock_9 : decode cL_rock 9 = .ok (.lastore, 1) := by decide +kernel
theorem dL_rock_10 : decode cL_rock 10 = .ok (.goto 11, 3) := by decide +kernel
theorem dL_rock_13 : decode cL_rock 13 = .ok (.astore 4, 2) := by decide +kernel
theorem dL_rock_15 : decode cL_rock 15 = .ok (.iconst 1, 1) := by decide +kernel
theorem dL_rock_16 : decode cL_rock 16 = .ok (.ireturn, 1) := by decide +kernel
theorem dL_rock_17 : decode cL_rock 17 = .ok (.astore 4, 2) := by decide +kernel
theorem dL_rock_19 : decode cL_rock 19 = .ok (.iconst 2, 1) := by decide +kernel
theorem dL_rock_20 : decode cL_rock 20 = .ok (.ireturn, 1) := by decide +kernel
theorem dL_rock_21 : decode cL_rock 21 = .ok (.iconst 0, 1) := by decide +kernel
theorem dL_rock_22 : decode cL_rock 22 = .ok (.ireturn, 1) := by decide +kernel
theorem dL_land_0 : decode cL_land 0 = .ok (.aload_n 3, 1) := by decide +kernel
theorem dL_land_1 : decode cL_land 1 = .ok (.iconst 0, 1) := by decide +kernel
theorem dL_land_2 : decode cL_land 2 = .ok (.aload_n 0, 1) := by decide +kernel
theorem dL_land_3 : decode cL_land 3 = .ok (.iload_n 1, 1) := by decide +kernel
theorem dL_land_4 : decode cL_land 4 = .ok (.iload_n 2, 1) := by decide +kernel
theorem dL_land_5 : decode cL_land 5 = .ok (.invokevirtual 17, 3) := by decide +kernel
theorem dL_land_8 : decode cL_land 8 = .ok (.i2l, 1) := by decide +kernel
theorem dL_land_9 : decode cL_land 9 = .ok (.lastore, 1) := by decide +kernel
theorem dL_land_10 : decode cL_land 10 = .ok (.goto 15, 3) := by decide +kernel
theorem dL_land_13 : decode cL_land 13 = .ok (.astore 4, 2) := by decide +kernel
theorem dL_land_15 : decode cL_land 15 = .ok (.iconst 1, 1) := by decide +kernel
theorem dL_land_16 : decode cL_land 16 = .ok (.ireturn, 1) := by decide +kernel
theorem dL_land_17 : decode cL_land 17 = .ok (.astore 4, 2) := by decide +kernel
theorem dL_land_19 : decode cL_land 19 = .ok (.iconst 2, 1) := by decide +kernel
theorem dL_land_20 : decode cL_land 20 = .ok (.ireturn, 1) := by decide +kernel
theorem dL_land_21 : decode cL_land 21 = .ok (.astore 4, 2) := by decide +kernel
theorem dL_land_23 : decode cL_land 23 = .ok (.iconst 3, 1) := by decide +kernel
theorem dL_land_24 : decode cL_land 24 = .ok (.ireturn, 1) := by decide +kernel
theorem dL_land_25 : decode cL_land 25 = .ok (.iconst 0, 1) := by decide +kernel
theorem dL_land_26 : decode cL_land 26 = .ok (.ireturn, 1) := by decide +kernel
theorem dL_lead_0 : decode cL_lead 0 = .ok (.aload_n 3, 1) := by decide +kernel
theorem dL_lead_1 : decode cL_lead 1 = .ok (.iconst 0, 1) := by decide +kernel
theorem dL_lead_2 : decode cL_lead 2 = .ok (.aload_n 0, 1) := by decide +kernel
theorem dL_lead_3 : decode cL_lead 3 = .ok (.iload_n 1, 1) := by decide +kernel
theorem dL_lead_4 : decode cL_lead 4 = .ok (.iload_n 2, 1) := by decide +kernel
theorem dL_lead_5 : decode cL_lead 5 = .ok (.invokevirtual 22, 3) := by decide +kernel
theorem dL_lead_8 : decode cL_lead 8 = .ok (.i2l, 1) := by decide +kernel
theorem dL_lead_9 : decode cL_lead 9 = .ok (.lastore, 1) := by decide +kernel
theorem dL_lead_10 : decode cL_lead 10 = .ok (.goto 11, 3) := by decide +kernel
theorem dL_lead_13 : decode cL_lead 13 = .ok (.astore 4, 2) := by decide +kernel
theorem dL_lead_15 : decode cL_lead 15 = .ok (.iconst 1, 1) := by decide +kernel
theorem dL_lead_16 : decode cL_lead 16 = .ok (.ireturn, 1) := by decide +kernel
theorem dL_lead_17 : decode cL_lead 17 = .ok (.astore 4, 2) := by decide +kernel
theorem dL_lead_19 : decode cL_lead 19 = .ok (.iconst 2, 1) := by decide +kernel
theorem dL_lead_20 : decode cL_lead 20 = .ok (.ireturn, 1) := by decide +kernel
theorem dL_lead_21 : decode cL_lead 21 = .ok (.iconst 0, 1) := by decide +kernel
theorem dL_lead_22 : decode cL_lead 22 = .ok (.ireturn, 1) := by decide +kernel
theorem dL_spill_0 : decode cL_spill 0 = .ok (.aload_n 3, 1) := by decide +kernel
theorem dL_spill_1 : decode cL_spill 1 = .ok (.iconst 0, 1) := by decide +kernel
theorem dL_spill_2 : decode cL_spill 2 = .ok (.aload_n 0, 1) := by decide +kernel
theorem dL_spill_3 : decode cL_spill 3 = .ok (.iload_n 1, 1) := by decide +kernel
theorem dL_spill_4 : decode cL_spill 4 = .ok (.iload_n 2, 1) := by decide +kernel
theorem dL_spill_5 : decode cL_spill 5 = .ok (.invokevirtual 25, 3) := by decide +kernel
theorem dL_spill_8 : decode cL_spill 8 = .ok (.i2l, 1) := by decide +kernel
theorem dL_spill_9 : decode cL_spill 9 = .ok (.lastore, 1) := by decide +kernel
theorem dL_spill_10 : decode cL_spill 10 = .ok (.goto 11, 3) := by decide +kernel
theorem dL_spill_13 : decode cL_spill 13 = .ok (.astore 4, 2) := by decide +kernel
theorem dL_spill_15 : decode cL_spill 15 = .ok (.iconst 1, 1) := by decide +kernel
theorem dL_spill_16 : decode cL_spill 16 = .ok (.ireturn, 1) := by decide +kernel
theorem dL_spill_17 : decode cL_spill 17 = .ok (.astore 4, 2) := by decide +kernel
theorem dL_spill_19 : decode cL_spill 19 = .ok (.iconst 2, 1) := by decide +kernel
theorem dL_spill_20 : decode cL_spill 20 = .ok (.ireturn, 1) := by decide +kernel
theorem dL_spill_21 : decode cL_spill 21 = .ok (.iconst 0, 1) := by decide +kernel
theorem dL_spill_22 : decode cL_spill 22 = .ok (.ireturn, 1) := by decide +kernel
theorem dL_contract_0 : decode cL_contract 0 = .ok (.aload_n 0, 1) := by decide +kernel
theorem dL_contract_1 : decode cL_contract 1 = .ok (.iload_n 1, 1) := by decide +kernel
theorem dL_contract_2 : decode cL_contract 2 = .ok (.iload_n 2, 1) := by decide +kernel
theorem dL_contract_3 : decode cL_contract 3 = .ok (.iload_n 3, 1) := by decide +kernel
theorem dL_contract_4 : decode cL_contract 4 = .ok (.invokevirtual 28, 3) := by decide +kernel
theorem dL_contract_7 : decode cL_contract 7 = .ok (.goto 15, 3) := by decide +kernel
theorem dL_contract_10 : decode cL_contract 10 = .ok (.astore 4, 2) := by decide +kernel
theorem dL_contract_12 : decode cL_contract 12 = .ok (.iconst 1, 1) := by decide +kernel
theorem dL_contract_13 : decode cL_contract 13 = .ok (.ireturn, 1) := by decide +kernel
theorem dL_contract_14 : decode cL_contract 14 = .ok (.astore 4, 2) := by decide +kernel
theorem dL_contract_16 : decode cL_contract 16 = .ok (.iconst 2, 1) := by decide +kernel
theorem dL_contract_17 : decode cL_contract 17 = .ok (.ireturn, 1) := by decide +kernel
theorem dL_contract_18 : decode cL_contract 18 = .ok (.astore 4, 2) := by decide +kernel
theorem dL_contract_20 : decode cL_contract 20 = .ok (.iconst 3, 1) := by decide +kernel
theorem dL_contract_21 : decode cL_contract 21 = .ok (.ireturn, 1) := by decide +kernel
theorem dL_contract_22 : decode cL_contract 22 = .ok (.iconst 0, 1) := by decide +kernel
theorem dL_contract_23 : decode cL_contract 23 = .ok (.ireturn, 1) := by decide +kernel
theorem dL_pass_0 : decode cL_pass 0 = .ok (.aload_n 3, 1) := by decide +kernel
theorem dL_pass_1 : decode cL_pass 1 = .ok (.iconst 0, 1) := by decide +kernel
theorem dL_pass_2 : decode cL_pass 2 = .ok (.aload_n 0, 1) := by decide +kernel
theorem dL_pass_3 : decode cL_pass 3 = .ok (.iload_n 1, 1) := by decide +kernel
theorem dL_pass_4 : decode cL_pass 4 = .ok (.iload_n 2, 1) := by decide +kernel
theorem dL_pass_5 : decode cL_pass 5 = .ok (.invokevirtual 32, 3) := by decide +kernel
theorem dL_pass_8 : decode cL_pass 8 = .ok (.i2l, 1) := by decide +kernel
theorem dL_pass_9 : decode cL_pass 9 = .ok (.lastore, 1) := by decide +kernel
theorem dL_pass_10 : decode cL_pass 10 = .ok (.goto 11, 3) := by decide +kernel
theorem dL_pass_13 : decode cL_pass 13 = .ok (.astore 4, 2) := by decide +kernel
theorem dL_pass_15 : decode cL_pass 15 = .ok (.iconst 1, 1) := by decide +kernel
theorem dL_pass_16 : decode cL_pass 16 = .ok (.ireturn, 1) := by decide +kernel
theorem dL_pass_17 : decode cL_pass 17 = .ok (.astore 4, 2) := by decide +kernel
theorem dL_pass_19 : decode cL_pass 19 = .ok (.iconst 2, 1) := by decide +kernel
theorem dL_pass_20 : decode cL_pass 20 = .ok (.ireturn, 1) := by decide +kernel
theorem dL_pass_21 : decode cL_pass 21 = .ok (.iconst 0, 1) := by decide +kernel
theorem dL_pass_22 : decode cL_pass 22 = .ok (.ireturn, 1) := by decide +kernel
theorem dL_well_0 : decode cL_well 0 = .ok (.aload_n 3, 1) := by decide +kernel
theorem dL_well_1 : decode cL_well 1 = .ok (.iconst 0, 1) := by decide +kernel
theorem dL_well_2 : decode cL_well 2 = .ok (.aload_n 0, 1) := by decide +kernel
theorem dL_well_3 : decode cL_well 3 = .ok (.iload_n 1, 1) := by decide +kernel
theorem dL_well_4 : decode cL_well 4 = .ok (.iload_n 2, 1) := by decide +kernel
theorem dL_well_5 : decode cL_well 5 = .ok (.invokevirtual 35, 3) := by decide +kernel
theorem dL_well_8 : decode cL_well 8 = .ok (.i2l, 1) := by decide +kernel
theorem dL_well_9 : decode cL_well 9 = .ok (.lastore, 1) := by decide +kernel
theorem dL_well_10 : decode cL_well 10 = .ok (.goto 15, 3) := by decide +kernel
theorem dL_well_13 : decode cL_well 13 = .ok (.astore 4, 2) := by decide +kernel
theorem dL_well_15 : decode cL_well 15 = .ok (.iconst 1, 1) := by decide +kernel
theorem dL_well_16 : decode cL_well 16 = .ok (.ireturn, 1) := by decide +kernel
theorem dL_well_17 : decode cL_well 17 = .ok (.astore 4, 2) := by decide +kernel
theorem dL_well_19 : decode cL_well 19 = .ok (.iconst 2, 1) := by decide +kernel
theorem dL_well_20 : decode cL_well 20 = .ok (.ireturn, 1) := by decide +kernel
theorem dL_well_21 : decode cL_well 21 = .ok (.astore 4, 2) := by decide +kernel
theorem dL_well_23 : decode cL_well 23 = .ok (.iconst 3, 1) := by decide +kernel
theorem dL_well_24 : decode cL_well 24 = .ok (.ireturn, 1) := by decide +kernel
theorem dL_well_25 : decode cL_well 25 = .ok (.iconst 0, 1) := by decide +kernel
theorem dL_well_26 : decode cL_well 26 = .ok (.ireturn, 1) := by decide +kernel
theorem dL_drought_0 : decode cL_drought 0 = .ok (.aload_n 0, 1) := by decide +kernel
theorem dL_drought_1 : decode cL_drought 1 = .ok (.iload_n 1, 1) := by decide +kernel
theorem dL_drought_2 : decode cL_drought 2 = .ok (.iload_n 2, 1) := by decide +kernel
theorem dL_drought_3 : decode cL_drought 3 = .ok (.iload_n 3, 1) := by decide +kernel
theorem dL_drought_4 : decode cL_drought 4 = .ok (.invokevirtual 38, 3) := by decide +kernel
theorem dL_drought_7 : decode cL_drought 7 = .ok (.goto 11, 3) := by decide +kernel
theorem dL_drought_10 : decode cL_drought 10 = .ok (.astore 4, 2) := by decide +kernel
theorem dL_drought_12 : decode cL_drought 12 = .ok (.iconst 1, 1) := by decide +kernel
theorem dL_drought_13 : decode cL_drought 13 = .ok (.ireturn, 1) := by decide +kernel
theorem dL_drought_14 : decode cL_drought 14 = .ok (.astore 4, 2) := by decide +kernel
theorem dL_drought_16 : decode cL_drought 16 = .ok (.iconst 2, 1) := by decide +kernel
theorem dL_drought_17 : decode cL_drought 17 = .ok (.ireturn, 1) := by decide +kernel
theorem dL_drought_18 : decode cL_drought 18 = .ok (.iconst 0, 1) := by decide +kernel
theorem dL_drought_19 : decode cL_drought 19 = .ok (.ireturn, 1) := by decide +kernel
theorem dL_share_0 : decode cL_share 0 = .ok (.aload_n 2, 1) := by decide +kernel
theorem dL_share_1 : decode cL_share 1 = .ok (.iconst 0, 1) := by decide +kernel
theorem dL_share_2 : decode cL_share 2 = .ok (.aload_n 0, 1) := by decide +kernel
theorem dL_share_3 : decode cL_share 3 = .ok (.iload_n 1, 1) := by decide +kernel
theorem dL_share_4 : decode cL_share 4 = .ok (.invokevirtual 41, 3) := by decide +kernel
theorem dL_share_7 : decode cL_share 7 = .ok (.i2l, 1) := by decide +kernel
theorem dL_share_8 : decode cL_share 8 = .ok (.lastore, 1) := by decide +kernel
theorem dL_share_9 : decode cL_share 9 = .ok (.goto 6, 3) := by decide +kernel
theorem dL_share_12 : decode cL_share 12 = .ok (.astore_n 3, 1) := by decide +kernel
theorem dL_share_13 : decode cL_share 13 = .ok (.iconst 1, 1) := by decide +kernel
theorem dL_share_14 : decode cL_share 14 = .ok (.ireturn, 1) := by decide +kernel
theorem dL_share_15 : decode cL_share 15 = .ok (.iconst 0, 1) := by decide +kernel
theorem dL_share_16 : decode cL_share 16 = .ok (.ireturn, 1) := by decide +kernel
theorem dL_bottle_0 : decode cL_bottle 0 = .ok (.aload_n 3, 1) := by decide +kernel
theorem dL_bottle_1 : decode cL_bottle 1 = .ok (.iconst 0, 1) := by decide +kernel
theorem dL_bottle_2 : decode cL_bottle 2 = .ok (.aload_n 0, 1) := by decide +kernel
theorem dL_bottle_3 : decode cL_bottle 3 = .ok (.iload_n 1, 1) := by decide +kernel
theorem dL_bottle_4 : decode cL_bottle 4 = .ok (.iload_n 2, 1) := by decide +kernel
theorem dL_bottle_5 : decode cL_bottle 5 = .ok (.invokevirtual 45, 3) := by decide +kernel
theorem dL_bottle_8 : decode cL_bottle 8 = .ok (.i2l, 1) := by decide +kernel
theorem dL_bottle_9 : decode cL_bottle 9 = .ok (.lastore, 1) := by decide +kernel
theorem dL_bottle_10 : decode cL_bottle 10 = .ok (.goto 15, 3) := by decide +kernel
theorem dL_bottle_13 : decode cL_bottle 13 = .ok (.astore 4, 2) := by decide +kernel
theorem dL_bottle_15 : decode cL_bottle 15 = .ok (.iconst 1, 1) := by decide +kernel
theorem dL_bottle_16 : decode cL_bottle 16 = .ok (.ireturn, 1) := by decide +kernel
theorem dL_bottle_17 : decode cL_bottle 17 = .ok (.astore 4, 2) := by decide +kernel
theorem dL_bottle_19 : decode cL_bottle 19 = .ok (.iconst 2, 1) := by decide +kernel
theorem dL_bottle_20 : decode cL_bottle 20 = .ok (.ireturn, 1) := by decide +kernel
theorem dL_bottle_21 : decode cL_bottle 21 = .ok (.astore 4, 2) := by decide +kernel
theorem dL_bottle_23 : decode cL_bottle 23 = .ok (.iconst 3, 1) := by decide +kernel
theorem dL_bottle_24 : decode cL_bottle 24 = .ok (.ireturn, 1) := by decide +kernel
theorem dL_bottle_25 : decode cL_bottle 25 = .ok (.iconst 0, 1) := by decide +kernel
theorem dL_bottle_26 : decode cL_bottle 26 = .ok (.ireturn, 1) := by decide +kernel
theorem dL_treat_0 : decode cL_treat 0 = .ok (.aload_n 3, 1) := by decide +kernel
theorem dL_treat_1 : decode cL_treat 1 = .ok (.iconst 0, 1) := by decide +kernel
theorem dL_treat_2 : decode cL_treat 2 = .ok (.aload_n 0, 1) := by decide +kernel
theorem dL_treat_3 : decode cL_treat 3 = .ok (.iload_n 1, 1) := by decide +kernel
theorem dL_treat_4 : decode cL_treat 4 = .ok (.iload_n 2, 1) := by decide +kernel
theorem dL_treat_5 : decode cL_treat 5 = .ok (.invokevirtual 48, 3) := by decide +kernel
theorem dL_treat_8 : decode cL_treat 8 = .ok (.i2l, 1) := by decide +kernel
theorem dL_treat_9 : decode cL_treat 9 = .ok (.lastore, 1) := by decide +kernel
theorem dL_treat_10 : decode cL_treat 10 = .ok (.goto 11, 3) := by decide +kernel
theorem dL_treat_13 : decode cL_treat 13 = .ok (.astore 4, 2) := by decide +kernel
theorem dL_treat_15 : decode cL_treat 15 = .ok (.iconst 1, 1) := by decide +kernel
theorem dL_treat_16 : decode cL_treat 16 = .ok (.ireturn, 1) := by decide +kernel
theorem dL_treat_17 : decode cL_treat 17 = .ok (.astore 4, 2) := by decide +kernel
theorem dL_treat_19 : decode cL_treat 19 = .ok (.iconst 2, 1) := by decide +kernel
theorem dL_treat_20 : decode cL_treat 20 = .ok (.ireturn, 1) := by decide +kernel
theorem dL_treat_21 : decode cL_treat 21 = .ok (.iconst 0, 1) := by decide +kernel
theorem dL_treat_22 : decode cL_treat 22 = .ok (.ireturn, 1) := by decide +kernel
theorem dL_label_0 : decode cL_label 0 = .ok (.aload_n 3, 1) := by decide +kernel
theorem dL_label_1 : decode cL_label 1 = .ok (.iconst 0, 1) := by decide +kernel
theorem dL_label_2 : decode cL_label 2 = .ok (.aload_n 0, 1) := by decide +kernel
theorem dL_label_3 : decode cL_label 3 = .ok (.iload_n 1, 1) := by decide +kernel
theorem dL_label_4 : decode cL_label 4 = .ok (.iload_n 2, 1) := by decide +kernel
theorem dL_label_5 : decode cL_label 5 = .ok (.invokevirtual 51, 3) := by decide +kernel
theorem dL_label_8 : decode cL_label 8 = .ok (.ifCond .eq 7, 3) := by decide +kernel
theorem dL_label_11 : decode cL_label 11 = .ok (.lconst 1, 1) := by decide +kernel
theorem dL_label_12 : decode cL_label 12 = .ok (.goto 4, 3) := by decide +kernel
theorem dL_label_15 : decode cL_label 15 = .ok (.lconst 0, 1) := by decide +kernel
theorem dL_label_16 : decode cL_label 16 = .ok (.lastore, 1) := by decide +kernel
theorem dL_label_17 : decode cL_label 17 = .ok (.goto 15, 3) := by decide +kernel
theorem dL_label_20 : decode cL_label 20 = .ok (.astore 4, 2) := by decide +kernel
theorem dL_label_22 : decode cL_label 22 = .ok (.iconst 1, 1) := by decide +kernel
theorem dL_label_23 : decode cL_label 23 = .ok (.ireturn, 1) := by decide +kernel
theorem dL_label_24 : decode cL_label 24 = .ok (.astore 4, 2) := by decide +kernel
theorem dL_label_26 : decode cL_label 26 = .ok (.iconst 2, 1) := by decide +kernel
theorem dL_label_27 : decode cL_label 27 = .ok (.ireturn, 1) := by decide +kernel
theorem dL_label_28 : decode cL_label 28 = .ok (.astore 4, 2) := by decide +kernel
theorem dL_label_30 : decode cL_label 30 = .ok (.iconst 3, 1) := by decide +kernel
theorem dL_label_31 : decode cL_label 31 = .ok (.ireturn, 1) := by decide +kernel
theorem dL_label_32 : decode cL_label 32 = .ok (.iconst 0, 1) := by decide +kernel
theorem dL_label_33 : decode cL_label 33 = .ok (.ireturn, 1) := by decide +kernel
theorem dL_forbid_0 : decode cL_forbid 0 = .ok (.aload_n 2, 1) := by decide +kernel
theorem dL_forbid_1 : decode cL_forbid 1 = .ok (.iconst 0, 1) := by decide +kernel
theorem dL_forbid_2 : decode cL_forbid 2 = .ok (.aload_n 0, 1) := by decide +kernel
theorem dL_forbid_3 : decode cL_forbid 3 = .ok (.iload_n 1, 1) := by decide +kernel
theorem dL_forbid_4 : decode cL_forbid 4 = .ok (.invokevirtual 55, 3) := by decide +kernel
theorem dL_forbid_7 : decode cL_forbid 7 = .ok (.i2l, 1) := by decide +kernel
theorem dL_forbid_8 : decode cL_forbid 8 = .ok (.lastore, 1) := by decide +kernel
theorem dL_forbid_9 : decode cL_forbid 9 = .ok (.goto 9, 3) := by decide +kernel
theorem dL_forbid_12 : decode cL_forbid 12 = .ok (.astore_n 3, 1) := by decide +kernel
theorem dL_forbid_13 : decode cL_forbid 13 = .ok (.iconst 1, 1) := by decide +kernel
theorem dL_forbid_14 : decode cL_forbid 14 = .ok (.ireturn, 1) := by decide +kernel
theorem dL_forbid_15 : decode cL_forbid 15 = .ok (.astore_n 3, 1) := by decide +kernel
theorem dL_forbid_16 : decode cL_forbid 16 = .ok (.iconst 2, 1) := by decide +kernel
theorem dL_forbid_17 : decode cL_forbid 17 = .ok (.ireturn, 1) := by decide +kernel
theorem dL_forbid_18 : decode cL_forbid 18 = .ok (.iconst 0, 1) := by decide +kernel
theorem dL_forbid_19 : decode cL_forbid 19 = .ok (.ireturn, 1) := by decide +kernel
theorem dL_cellOf_0 : decode cL_cellOf 0 = .ok (.aload_n 3, 1) := by decide +kernel
theorem dL_cellOf_1 : decode cL_cellOf 1 = .ok (.iconst 0, 1) := by decide +kernel
theorem dL_cellOf_2 : decode cL_cellOf 2 = .ok (.aload_n 0, 1) := by decide +kernel
theorem dL_cellOf_3 : decode cL_cellOf 3 = .ok (.iload_n 1, 1) := by decide +kernel
theorem dL_cellOf_4 : decode cL_cellOf 4 = .ok (.iload_n 2, 1) := by decide +kernel
theorem dL_cellOf_5 : decode cL_cellOf 5 = .ok (.invokevirtual 58, 3) := by decide +kernel
theorem dL_cellOf_8 : decode cL_cellOf 8 = .ok (.i2l, 1) := by decide +kernel
theorem dL_cellOf_9 : decode cL_cellOf 9 = .ok (.lastore, 1) := by decide +kernel
theorem dL_cellOf_10 : decode cL_cellOf 10 = .ok (.goto 11, 3) := by decide +kernel
theorem dL_cellOf_13 : decode cL_cellOf 13 = .ok (.astore 4, 2) := by decide +kernel
theorem dL_cellOf_15 : decode cL_cellOf 15 = .ok (.iconst 1, 1) := by decide +kernel
theorem dL_cellOf_16 : decode cL_cellOf 16 = .ok (.ireturn, 1) := by decide +kernel
theorem dL_cellOf_17 : decode cL_cellOf 17 = .ok (.astore 4, 2) := by decide +kernel
theorem dL_cellOf_19 : decode cL_cellOf 19 = .ok (.iconst 2, 1) := by decide +kernel
theorem dL_cellOf_20 : decode cL_cellOf 20 = .ok (.ireturn, 1) := by decide +kernel
theorem dL_cellOf_21 : decode cL_cellOf 21 = .ok (.iconst 0, 1) := by decide +kernel
theorem dL_cellOf_22 : decode cL_cellOf 22 = .ok (.ireturn, 1) := by decide +kernel
theorem dL_flow_0 : decode cL_flow 0 = .ok (.aload_n 2, 1) := by decide +kernel
theorem dL_flow_1 : decode cL_flow 1 = .ok (.iconst 0, 1) := by decide +kernel
theorem dL_flow_2 : decode cL_flow 2 = .ok (.aload_n 0, 1) := by decide +kernel
theorem dL_flow_3 : decode cL_flow 3 = .ok (.iload_n 1, 1) := by decide +kernel
theorem dL_flow_4 : decode cL_flow 4 = .ok (.invokevirtual 61, 3) := by decide +kernel
theorem dL_flow_7 : decode cL_flow 7 = .ok (.i2l, 1) := by decide +kernel
theorem dL_flow_8 : decode cL_flow 8 = .ok (.lastore, 1) := by decide +kernel
theorem dL_flow_9 : decode cL_flow 9 = .ok (.goto 6, 3) := by decide +kernel
theorem dL_flow_12 : decode cL_flow 12 = .ok (.astore_n 3, 1) := by decide +kernel
theorem dL_flow_13 : decode cL_flow 13 = .ok (.iconst 1, 1) := by decide +kernel
theorem dL_flow_14 : decode cL_flow 14 = .ok (.ireturn, 1) := by decide +kernel
theorem dL_flow_15 : decode cL_flow 15 = .ok (.iconst 0, 1) := by decide +kernel
theorem dL_flow_16 : decode cL_flow 16 = .ok (.ireturn, 1) := by decide +kernel
theorem dL_wellOf_0 : decode cL_wellOf 0 = .ok (.aload_n 3, 1) := by decide +kernel
theorem dL_wellOf_1 : decode cL_wellOf 1 = .ok (.iconst 0, 1) := by decide +kernel
theorem dL_wellOf_2 : decode cL_wellOf 2 = .ok (.aload_n 0, 1) := by decide +kernel
theorem dL_wellOf_3 : decode cL_wellOf 3 = .ok (.iload_n 1, 1) := by decide +kernel
theorem dL_wellOf_4 : decode cL_wellOf 4 = .ok (.iload_n 2, 1) := by decide +kernel
theorem dL_wellOf_5 : decode cL_wellOf 5 = .ok (.invokevirtual 64, 3) := by decide +kernel
theorem dL_wellOf_8 : decode cL_wellOf 8 = .ok (.i2l, 1) := by decide +kernel
theorem dL_wellOf_9 : decode cL_wellOf 9 = .ok (.lastore, 1) := by decide +kernel
theorem dL_wellOf_10 : decode cL_wellOf 10 = .ok (.goto 11, 3) := by decide +kernel
theorem dL_wellOf_13 : decode cL_wellOf 13 = .ok (.astore 4, 2) := by decide +kernel
theorem dL_wellOf_15 : decode cL_wellOf 15 = .ok (.iconst 1, 1) := by decide +kernel
theorem dL_wellOf_16 : decode cL_wellOf 16 = .ok (.ireturn, 1) := by decide +kernel
theorem dL_wellOf_17 : decode cL_wellOf 17 = .ok (.astore 4, 2) := by decide +kernel
theorem dL_wellOf_19 : decode cL_wellOf 19 = .ok (.iconst 2, 1) := by decide +kernel
theorem dL_wellOf_20 : decode cL_wellOf 20 = .ok (.ireturn, 1) := by decide +kernel
theorem dL_wellOf_21 : decode cL_wellOf 21 = .ok (.iconst 0, 1) := by decide +kernel
theorem dL_wellOf_22 : decode cL_wellOf 22 = .ok (.ireturn, 1) := by decide +kernel
theorem dL_lotOf_0 : decode cL_lotOf 0 = .ok (.aload_n 3, 1) := by decide +kernel
theorem dL_lotOf_1 : decode cL_lotOf 1 = .ok (.iconst 0, 1) := by decide +kernel
theorem dL_lotOf_2 : decode cL_lotOf 2 = .ok (.aload_n 0, 1) := by decide +kernel
theorem dL_lotOf_3 : decode cL_lotOf 3 = .ok (.iload_n 1, 1) := by decide +kernel
theorem dL_lotOf_4 : decode cL_lotOf 4 = .ok (.iload_n 2, 1) := by decide +kernel
theorem dL_lotOf_5 : decode cL_lotOf 5 = .ok (.invokevirtual 67, 3) := by decide +kernel
theorem dL_lotOf_8 : decode cL_lotOf 8 = .ok (.i2l, 1) := by decide +kernel
theorem dL_lotOf_9 : decode cL_lotOf 9 = .ok (.lastore, 1) := by decide +kernel
theorem dL_lotOf_10 : decode cL_lotOf 10 = .ok (.goto 11, 3) := by decide +kernel
theorem dL_lotOf_13 : decode cL_lotOf 13 = .ok (.astore 4, 2) := by decide +kernel
theorem dL_lotOf_15 : decode cL_lotOf 15 = .ok (.iconst 1, 1) := by decide +kernel
theorem dL_lotOf_16 : decode cL_lotOf 16 = .ok (.ireturn, 1) := by decide +kernel
theorem dL_lotOf_17 : decode cL_lotOf 17 = .ok (.astore 4, 2) := by decide +kernel
theorem dL_lotOf_19 : decode cL_lotOf 19 = .ok (.iconst 2, 1) := by decide +kernel
theorem dL_lotOf_20 : decode cL_lotOf 20 = .ok (.ireturn, 1) := by decide +kernel
theorem dL_lotOf_21 : decode cL_lotOf 21 = .ok (.iconst 0, 1) := by decide +kernel
theorem dL_lotOf_22 : decode cL_lotOf 22 = .ok (.ireturn, 1) := by decide +kernel
theorem dL_age_0 : decode cL_age 0 = .ok (.aload_n 2, 1) := by decide +kernel
theorem dL_age_1 : decode cL_age 1 = .ok (.iconst 0, 1) := by decide +kernel
theorem dL_age_2 : decode cL_age 2 = .ok (.aload_n 0, 1) := by decide +kernel
theorem dL_age_3 : decode cL_age 3 = .ok (.iload_n 1, 1) := by decide +kernel
theorem dL_age_4 : decode cL_age 4 = .ok (.invokevirtual 70, 3) := by decide +kernel
theorem dL_age_7 : decode cL_age 7 = .ok (.f2d, 1) := by decide +kernel
theorem dL_age_8 : decode cL_age 8 = .ok (.dastore, 1) := by decide +kernel
theorem dL_age_9 : decode cL_age 9 = .ok (.goto 6, 3) := by decide +kernel
theorem dL_age_12 : decode cL_age 12 = .ok (.astore_n 3, 1) := by decide +kernel
theorem dL_age_13 : decode cL_age 13 = .ok (.iconst 1, 1) := by decide +kernel
theorem dL_age_14 : decode cL_age 14 = .ok (.ireturn, 1) := by decide +kernel
theorem dL_age_15 : decode cL_age 15 = .ok (.iconst 0, 1) := by decide +kernel
theorem dL_age_16 : decode cL_age 16 = .ok (.ireturn, 1) := by decide +kernel
theorem dL_best_0 : decode cL_best 0 = .ok (.aload_n 2, 1) := by decide +kernel
theorem dL_best_1 : decode cL_best 1 = .ok (.iconst 0, 1) := by decide +kernel
theorem dL_best_2 : decode cL_best 2 = .ok (.aload_n 0, 1) := by decide +kernel
theorem dL_best_3 : decode cL_best 3 = .ok (.iload_n 1, 1) := by decide +kernel
theorem dL_best_4 : decode cL_best 4 = .ok (.invokevirtual 74, 3) := by decide +kernel
theorem dL_best_7 : decode cL_best 7 = .ok (.i2l, 1) := by decide +kernel
theorem dL_best_8 : decode cL_best 8 = .ok (.lastore, 1) := by decide +kernel
theorem dL_best_9 : decode cL_best 9 = .ok (.goto 6, 3) := by decide +kernel
theorem dL_best_12 : decode cL_best 12 = .ok (.astore_n 3, 1) := by decide +kernel
theorem dL_best_13 : decode cL_best 13 = .ok (.iconst 1, 1) := by decide +kernel
theorem dL_best_14 : decode cL_best 14 = .ok (.ireturn, 1) := by decide +kernel
theorem dL_best_15 : decode cL_best 15 = .ok (.iconst 0, 1) := by decide +kernel
theorem dL_best_16 : decode cL_best 16 = .ok (.ireturn, 1) := by decide +kernel
theorem dL_from_0 : decode cL_from 0 = .ok (.aload 4, 2) := by decide +kernel
theorem dL_from_2 : decode cL_from 2 = .ok (.iconst 0, 1) := by decide +kernel
theorem dL_from_3 : decode cL_from 3 = .ok (.aload_n 0, 1) := by decide +kernel
theorem dL_from_4 : decode cL_from 4 = .ok (.iload_n 1, 1) := by decide +kernel
theorem dL_from_5 : decode cL_from 5 = .ok (.iload_n 2, 1) := by decide +kernel
theorem dL_from_6 : decode cL_from 6 = .ok (.iload_n 3, 1) := by decide +kernel
theorem dL_from_7 : decode cL_from 7 = .ok (.invokevirtual 77, 3) := by decide +kernel
theorem dL_from_10 : decode cL_from 10 = .ok (.i2l, 1) := by decide +kernel
theorem dL_from_11 : decode cL_from 11 = .ok (.lastore, 1) := by decide +kernel
theorem dL_from_12 : decode cL_from 12 = .ok (.goto 7, 3) := by decide +kernel
theorem dL_from_15 : decode cL_from 15 = .ok (.astore 5, 2) := by decide +kernel
theorem dL_from_17 : decode cL_from 17 = .ok (.iconst 1, 1) := by decide +kernel
theorem dL_from_18 : decode cL_from 18 = .ok (.ireturn, 1) := by decide +kernel
theorem dL_from_19 : decode cL_from 19 = .ok (.iconst 0, 1) := by decide +kernel
theorem dL_from_20 : decode cL_from 20 = .ok (.ireturn, 1) := by decide +kernel
theorem dL_fromAnew_0 : decode cL_fromAnew 0 = .ok (.aload 4, 2) := by decide +kernel
theorem dL_fromAnew_2 : decode cL_fromAnew 2 = .ok (.iconst 0, 1) := by decide +kernel
theorem dL_fromAnew_3 : decode cL_fromAnew 3 = .ok (.aload_n 0, 1) := by decide +kernel
theorem dL_fromAnew_4 : decode cL_fromAnew 4 = .ok (.iload_n 1, 1) := by decide +kernel
theorem dL_fromAnew_5 : decode cL_fromAnew 5 = .ok (.iload_n 2, 1) := by decide +kernel
theorem dL_fromAnew_6 : decode cL_fromAnew 6 = .ok (.iload_n 3, 1) := by decide +kernel
theorem dL_fromAnew_7 : decode cL_fromAnew 7 = .ok (.invokevirtual 81, 3) := by decide +kernel
theorem dL_fromAnew_10 : decode cL_fromAnew 10 = .ok (.i2l, 1) := by decide +kernel
theorem dL_fromAnew_11 : decode cL_fromAnew 11 = .ok (.lastore, 1) := by decide +kernel
theorem dL_fromAnew_12 : decode cL_fromAnew 12 = .ok (.goto 7, 3) := by decide +kernel
theorem dL_fromAnew_15 : decode cL_fromAnew 15 = .ok (.astore 5, 2) := by decide +kernel
theorem dL_fromAnew_17 : decode cL_fromAnew 17 = .ok (.iconst 1, 1) := by decide +kernel
theorem dL_fromAnew_18 : decode cL_fromAnew 18 = .ok (.ireturn, 1) := by decide +kernel
theorem dL_fromAnew_19 : decode cL_fromAnew 19 = .ok (.iconst 0, 1) := by decide +kernel
theorem dL_fromAnew_20 : decode cL_fromAnew 20 = .ok (.ireturn, 1) := by decide +kernel
theorem dL_whence_0 : decode cL_whence 0 = .ok (.aload_n 3, 1) := by decide +kernel
theorem dL_whence_1 : decode cL_whence 1 = .ok (.iconst 0, 1) := by decide +kernel
theorem dL_whence_2 : decode cL_whence 2 = .ok (.aload_n 0, 1) := by decide +kernel
theorem dL_whence_3 : decode cL_whence 3 = .ok (.iload_n 1, 1) := by decide +kernel
theorem dL_whence_4 : decode cL_whence 4 = .ok (.iload_n 2, 1) := by decide +kernel
theorem dL_whence_5 : decode cL_whence 5 = .ok (.invokevirtual 84, 3) := by decide +kernel
theorem dL_whence_8 : decode cL_whence 8 = .ok (.i2l, 1) := by decide +kernel
theorem dL_whence_9 : decode cL_whence 9 = .ok (.lastore, 1) := by decide +kernel
theorem dL_whence_10 : decode cL_whence 10 = .ok (.goto 7, 3) := by decide +kernel
theorem dL_whence_13 : decode cL_whence 13 = .ok (.astore 4, 2) := by decide +kernel
theorem dL_whence_15 : decode cL_whence 15 = .ok (.iconst 1, 1) := by decide +kernel
theorem dL_whence_16 : decode cL_whence 16 = .ok (.ireturn, 1) := by decide +kernel
theorem dL_whence_17 : decode cL_whence 17 = .ok (.iconst 0, 1) := by decide +kernel
theorem dL_whence_18 : decode cL_whence 18 = .ok (.ireturn, 1) := by decide +kernel
theorem dL_sum_0 : decode cL_sum 0 = .ok (.aload_n 2, 1) := by decide +kernel
theorem dL_sum_1 : decode cL_sum 1 = .ok (.iconst 0, 1) := by decide +kernel
theorem dL_sum_2 : decode cL_sum 2 = .ok (.aload_n 0, 1) := by decide +kernel
theorem dL_sum_3 : decode cL_sum 3 = .ok (.iload_n 1, 1) := by decide +kernel
theorem dL_sum_4 : decode cL_sum 4 = .ok (.invokevirtual 87, 3) := by decide +kernel
theorem dL_sum_7 : decode cL_sum 7 = .ok (.lastore, 1) := by decide +kernel
theorem dL_sum_8 : decode cL_sum 8 = .ok (.goto 6, 3) := by decide +kernel
theorem dL_sum_11 : decode cL_sum 11 = .ok (.astore_n 3, 1) := by decide +kernel
theorem dL_sum_12 : decode cL_sum 12 = .ok (.iconst 1, 1) := by decide +kernel
theorem dL_sum_13 : decode cL_sum 13 = .ok (.ireturn, 1) := by decide +kernel
theorem dL_sum_14 : decode cL_sum 14 = .ok (.iconst 0, 1) := by decide +kernel
theorem dL_sum_15 : decode cL_sum 15 = .ok (.ireturn, 1) := by decide +kernel
theorem dL_law_0 : decode cL_law 0 = .ok (.new 8, 3) := by decide +kernel
theorem dL_law_3 : decode cL_law 3 = .ok (.dup, 1) := by decide +kernel
theorem dL_law_4 : decode cL_law 4 = .ok (.invokespecial 91, 3) := by decide +kernel
theorem dL_law_7 : decode cL_law 7 = .ok (.astore_n 1, 1) := by decide +kernel
theorem dL_law_8 : decode cL_law 8 = .ok (.new 92, 3) := by decide +kernel
theorem dL_law_11 : decode cL_law 11 = .ok (.dup, 1) := by decide +kernel
theorem dL_law_12 : decode cL_law 12 = .ok (.invokespecial 94, 3) := by decide +kernel
theorem dL_law_15 : decode cL_law 15 = .ok (.astore_n 2, 1) := by decide +kernel
theorem dL_law_16 : decode cL_law 16 = .ok (.iconst 1, 1) := by decide +kernel
theorem dL_law_17 : decode cL_law 17 = .ok (.newarray .long, 2) := by decide +kernel
theorem dL_law_19 : decode cL_law 19 = .ok (.astore_n 3, 1) := by decide +kernel
theorem dL_law_20 : decode cL_law 20 = .ok (.iconst 1, 1) := by decide +kernel
theorem dL_law_21 : decode cL_law 21 = .ok (.newarray .double, 2) := by decide +kernel
theorem dL_law_23 : decode cL_law 23 = .ok (.astore 4, 2) := by decide +kernel
theorem dL_law_25 : decode cL_law 25 = .ok (.iconst 0, 1) := by decide +kernel
theorem dL_law_26 : decode cL_law 26 = .ok (.istore 5, 2) := by decide +kernel
theorem dL_law_28 : decode cL_law 28 = .ok (.iload 5, 2) := by decide +kernel
theorem dL_law_30 : decode cL_law 30 = .ok (.aload_n 0, 1) := by decide +kernel
theorem dL_law_31 : decode cL_law 31 = .ok (.arraylength, 1) := by decide +kernel
theorem dL_law_32 : decode cL_law 32 = .ok (.iconst 4, 1) := by decide +kernel
theorem dL_law_33 : decode cL_law 33 = .ok (.isub, 1) := by decide +kernel
theorem dL_law_34 : decode cL_law 34 = .ok (.if_icmp .gt 1669, 3) := by decide +kernel
theorem dL_law_37 : decode cL_law 37 = .ok (.aload_n 0, 1) := by decide +kernel
theorem dL_law_38 : decode cL_law 38 = .ok (.iload 5, 2) := by decide +kernel
theorem dL_law_40 : decode cL_law 40 = .ok (.iaload, 1) := by decide +kernel
theorem dL_law_41 : decode cL_law 41 = .ok (.bipush 31, 2) := by decide +kernel
theorem dL_law_43 : decode cL_law 43 = .ok (.iand, 1) := by decide +kernel
theorem dL_law_44 : decode cL_law 44 = .ok (.tableswitch 1653 0 23 #[112, 180, 248, 316, 384, 444, 512, 580, 640, 696, 764, 832, 907, 963, 976, 1044, 1100, 1168, 1236, 1314, 1370, 1450, 1530, 1598], 112) := by decide +kernel
theorem dL_law_156 : decode cL_law 156 = .ok (.aload_n 1, 1) := by decide +kernel
theorem dL_law_157 : decode cL_law 157 = .ok (.aload_n 0, 1) := by decide +kernel
theorem dL_law_158 : decode cL_law 158 = .ok (.iload 5, 2) := by decide +kernel
theorem dL_law_160 : decode cL_law 160 = .ok (.iconst 1, 1) := by decide +kernel
theorem dL_law_161 : decode cL_law 161 = .ok (.iadd, 1) := by decide +kernel
theorem dL_law_162 : decode cL_law 162 = .ok (.iaload, 1) := by decide +kernel
theorem dL_law_163 : decode cL_law 163 = .ok (.aload_n 0, 1) := by decide +kernel
theorem dL_law_164 : decode cL_law 164 = .ok (.iload 5, 2) := by decide +kernel
theorem dL_law_166 : decode cL_law 166 = .ok (.iconst 2, 1) := by decide +kernel
theorem dL_law_167 : decode cL_law 167 = .ok (.iadd, 1) := by decide +kernel
theorem dL_law_168 : decode cL_law 168 = .ok (.iaload, 1) := by decide +kernel
theorem dL_law_169 : decode cL_law 169 = .ok (.aload_n 3, 1) := by decide +kernel
theorem dL_law_170 : decode cL_law 170 = .ok (.invokestatic 95, 3) := by decide +kernel
theorem dL_law_173 : decode cL_law 173 = .ok (.istore 6, 2) := by decide +kernel
theorem dL_law_175 : decode cL_law 175 = .ok (.aload_n 2, 1) := by decide +kernel
theorem dL_law_176 : decode cL_law 176 = .ok (.aload_n 0, 1) := by decide +kernel
theorem dL_law_177 : decode cL_law 177 = .ok (.iload 5, 2) := by decide +kernel
theorem dL_law_179 : decode cL_law 179 = .ok (.iconst 1, 1) := by decide +kernel
theorem dL_law_180 : decode cL_law 180 = .ok (.iadd, 1) := by decide +kernel
theorem dL_law_181 : decode cL_law 181 = .ok (.iaload, 1) := by decide +kernel
theorem dL_law_182 : decode cL_law 182 = .ok (.aload_n 0, 1) := by decide +kernel
theorem dL_law_183 : decode cL_law 183 = .ok (.iload 5, 2) := by decide +kernel
theorem dL_law_185 : decode cL_law 185 = .ok (.iconst 2, 1) := by decide +kernel
theorem dL_law_186 : decode cL_law 186 = .ok (.iadd, 1) := by decide +kernel
theorem dL_law_187 : decode cL_law 187 = .ok (.iaload, 1) := by decide +kernel
theorem dL_law_188 : decode cL_law 188 = .ok (.invokevirtual 100, 3) := by decide +kernel
theorem dL_law_191 : decode cL_law 191 = .ok (.istore 7, 2) := by decide +kernel
theorem dL_law_193 : decode cL_law 193 = .ok (.aload_n 2, 1) := by decide +kernel
theorem dL_law_194 : decode cL_law 194 = .ok (.invokevirtual 101, 3) := by decide +kernel
theorem dL_law_197 : decode cL_law 197 = .ok (.iload 6, 2) := by decide +kernel
theorem dL_law_199 : decode cL_law 199 = .ok (.if_icmp .eq 5, 3) := by decide +kernel
theorem dL_law_202 : decode cL_law 202 = .ok (.iconst 0, 1) := by decide +kernel
theorem dL_law_203 : decode cL_law 203 = .ok (.ireturn, 1) := by decide +kernel
theorem dL_law_204 : decode cL_law 204 = .ok (.iload 6, 2) := by decide +kernel
theorem dL_law_206 : decode cL_law 206 = .ok (.ifCond .ne 15, 3) := by decide +kernel
theorem dL_law_209 : decode cL_law 209 = .ok (.aload_n 3, 1) := by decide +kernel
theorem dL_law_210 : decode cL_law 210 = .ok (.iconst 0, 1) := by decide +kernel
theorem dL_law_211 : decode cL_law 211 = .ok (.laload, 1) := by decide +kernel
theorem dL_law_212 : decode cL_law 212 = .ok (.iload 7, 2) := by decide +kernel
theorem dL_law_214 : decode cL_law 214 = .ok (.i2l, 1) := by decide +kernel
theorem dL_law_215 : decode cL_law 215 = .ok (.lcmp, 1) := by decide +kernel
theorem dL_law_216 : decode cL_law 216 = .ok (.ifCond .eq 5, 3) := by decide +kernel
theorem dL_law_219 : decode cL_law 219 = .ok (.iconst 0, 1) := by decide +kernel
theorem dL_law_220 : decode cL_law 220 = .ok (.ireturn, 1) := by decide +kernel
theorem dL_law_221 : decode cL_law 221 = .ok (.goto 1476, 3) := by decide +kernel
theorem dL_law_224 : decode cL_law 224 = .ok (.aload_n 1, 1) := by decide +kernel
theorem dL_law_225 : decode cL_law 225 = .ok (.aload_n 0, 1) := by decide +kernel
theorem dL_law_226 : decode cL_law 226 = .ok (.iload 5, 2) := by decide +kernel
theorem dL_law_228 : decode cL_law 228 = .ok (.iconst 1, 1) := by decide +kernel
theorem dL_law_229 : decode cL_law 229 = .ok (.iadd, 1) := by decide +kernel
theorem dL_law_230 : decode cL_law 230 = .ok (.iaload, 1) := by decide +kernel
theorem dL_law_231 : decode cL_law 231 = .ok (.aload_n 0, 1) := by decide +kernel
theorem dL_law_232 : decode cL_law 232 = .ok (.iload 5, 2) := by decide +kernel
theorem dL_law_234 : decode cL_law 234 = .ok (.iconst 2, 1) := by decide +kernel
theorem dL_law_235 : decode cL_law 235 = .ok (.iadd, 1) := by decide +kernel
theorem dL_law_236 : decode cL_law 236 = .ok (.iaload, 1) := by decide +kernel
theorem dL_law_237 : decode cL_law 237 = .ok (.aload_n 3, 1) := by decide +kernel
theorem dL_law_238 : decode cL_law 238 = .ok (.invokestatic 105, 3) := by decide +kernel
theorem dL_law_241 : decode cL_law 241 = .ok (.istore 6, 2) := by decide +kernel
theorem dL_law_243 : decode cL_law 243 = .ok (.aload_n 2, 1) := by decide +kernel
theorem dL_law_244 : decode cL_law 244 = .ok (.aload_n 0, 1) := by decide +kernel
theorem dL_law_245 : decode cL_law 245 = .ok (.iload 5, 2) := by decide +kernel
theorem dL_law_247 : decode cL_law 247 = .ok (.iconst 1, 1) := by decide +kernel
theorem dL_law_248 : decode cL_law 248 = .ok (.iadd, 1) := by decide +kernel
theorem dL_law_249 : decode cL_law 249 = .ok (.iaload, 1) := by decide +kernel
theorem dL_law_250 : decode cL_law 250 = .ok (.aload_n 0, 1) := by decide +kernel
theorem dL_law_251 : decode cL_law 251 = .ok (.iload 5, 2) := by decide +kernel
theorem dL_law_253 : decode cL_law 253 = .ok (.iconst 2, 1) := by decide +kernel
theorem dL_law_254 : decode cL_law 254 = .ok (.iadd, 1) := by decide +kernel
theorem dL_law_255 : decode cL_law 255 = .ok (.iaload, 1) := by decide +kernel
theorem dL_law_256 : decode cL_law 256 = .ok (.invokevirtual 107, 3) := by decide +kernel
theorem dL_law_259 : decode cL_law 259 = .ok (.istore 7, 2) := by decide +kernel
theorem dL_law_261 : decode cL_law 261 = .ok (.aload_n 2, 1) := by decide +kernel
theorem dL_law_262 : decode cL_law 262 = .ok (.invokevirtual 101, 3) := by decide +kernel
theorem dL_law_265 : decode cL_law 265 = .ok (.iload 6, 2) := by decide +kernel
theorem dL_law_267 : decode cL_law 267 = .ok (.if_icmp .eq 5, 3) := by decide +kernel
theorem dL_law_270 : decode cL_law 270 = .ok (.iconst 0, 1) := by decide +kernel
theorem dL_law_271 : decode cL_law 271 = .ok (.ireturn, 1) := by decide +kernel
theorem dL_law_272 : decode cL_law 272 = .ok (.iload 6, 2) := by decide +kernel
theorem dL_law_274 : decode cL_law 274 = .ok (.ifCond .ne 15, 3) := by decide +kernel
theorem dL_law_277 : decode cL_law 277 = .ok (.aload_n 3, 1) := by decide +kernel
theorem dL_law_278 : decode cL_law 278 = .ok (.iconst 0, 1) := by decide +kernel
theorem dL_law_279 : decode cL_law 279 = .ok (.laload, 1) := by decide +kernel
theorem dL_law_280 : decode cL_law 280 = .ok (.iload 7, 2) := by decide +kernel
theorem dL_law_282 : decode cL_law 282 = .ok (.i2l, 1) := by decide +kernel
theorem dL_law_283 : decode cL_law 283 = .ok (.lcmp, 1) := by decide +kernel
theorem dL_law_284 : decode cL_law 284 = .ok (.ifCond .eq 5, 3) := by decide +kernel
theorem dL_law_287 : decode cL_law 287 = .ok (.iconst 0, 1) := by decide +kernel
theorem dL_law_288 : decode cL_law 288 = .ok (.ireturn, 1) := by decide +kernel
theorem dL_law_289 : decode cL_law 289 = .ok (.goto 1408, 3) := by decide +kernel
theorem dL_law_292 : decode cL_law 292 = .ok (.aload_n 1, 1) := by decide +kernel
theorem dL_law_293 : decode cL_law 293 = .ok (.aload_n 0, 1) := by decide +kernel
theorem dL_law_294 : decode cL_law 294 = .ok (.iload 5, 2) := by decide +kernel
theorem dL_law_296 : decode cL_law 296 = .ok (.iconst 1, 1) := by decide +kernel
theorem dL_law_297 : decode cL_law 297 = .ok (.iadd, 1) := by decide +kernel
theorem dL_law_298 : decode cL_law 298 = .ok (.iaload, 1) := by decide +kernel
theorem dL_law_299 : decode cL_law 299 = .ok (.aload_n 0, 1) := by decide +kernel
theorem dL_law_300 : decode cL_law 300 = .ok (.iload 5, 2) := by decide +kernel
theorem dL_law_302 : decode cL_law 302 = .ok (.iconst 2, 1) := by decide +kernel
theorem dL_law_303 : decode cL_law 303 = .ok (.iadd, 1) := by decide +kernel
theorem dL_law_304 : decode cL_law 304 = .ok (.iaload, 1) := by decide +kernel
theorem dL_law_305 : decode cL_law 305 = .ok (.aload_n 3, 1) := by decide +kernel
theorem dL_law_306 : decode cL_law 306 = .ok (.invokestatic 108, 3) := by decide +kernel
theorem dL_law_309 : decode cL_law 309 = .ok (.istore 6, 2) := by decide +kernel
theorem dL_law_311 : decode cL_law 311 = .ok (.aload_n 2, 1) := by decide +kernel
theorem dL_law_312 : decode cL_law 312 = .ok (.aload_n 0, 1) := by decide +kernel
theorem dL_law_313 : decode cL_law 313 = .ok (.iload 5, 2) := by decide +kernel
theorem dL_law_315 : decode cL_law 315 = .ok (.iconst 1, 1) := by decide +kernel
theorem dL_law_316 : decode cL_law 316 = .ok (.iadd, 1) := by decide +kernel
theorem dL_law_317 : decode cL_law 317 = .ok (.iaload, 1) := by decide +kernel
theorem dL_law_318 : decode cL_law 318 = .ok (.aload_n 0, 1) := by decide +kernel
theorem dL_law_319 : decode cL_law 319 = .ok (.iload 5, 2) := by decide +kernel
theorem dL_law_321 : decode cL_law 321 = .ok (.iconst 2, 1) := by decide +kernel
theorem dL_law_322 : decode cL_law 322 = .ok (.iadd, 1) := by decide +kernel
theorem dL_law_323 : decode cL_law 323 = .ok (.iaload, 1) := by decide +kernel
theorem dL_law_324 : decode cL_law 324 = .ok (.invokevirtual 110, 3) := by decide +kernel
theorem dL_law_327 : decode cL_law 327 = .ok (.istore 7, 2) := by decide +kernel
theorem dL_law_329 : decode cL_law 329 = .ok (.aload_n 2, 1) := by decide +kernel
theorem dL_law_330 : decode cL_law 330 = .ok (.invokevirtual 101, 3) := by decide +kernel
theorem dL_law_333 : decode cL_law 333 = .ok (.iload 6, 2) := by decide +kernel
theorem dL_law_335 : decode cL_law 335 = .ok (.if_icmp .eq 5, 3) := by decide +kernel
theorem dL_law_338 : decode cL_law 338 = .ok (.iconst 0, 1) := by decide +kernel
theorem dL_law_339 : decode cL_law 339 = .ok (.ireturn, 1) := by decide +kernel
theorem dL_law_340 : decode cL_law 340 = .ok (.iload 6, 2) := by decide +kernel
theorem dL_law_342 : decode cL_law 342 = .ok (.ifCond .ne 15, 3) := by decide +kernel
theorem dL_law_345 : decode cL_law 345 = .ok (.aload_n 3, 1) := by decide +kernel
theorem dL_law_346 : decode cL_law 346 = .ok (.iconst 0, 1) := by decide +kernel
theorem dL_law_347 : decode cL_law 347 = .ok (.laload, 1) := by decide +kernel
theorem dL_law_348 : decode cL_law 348 = .ok (.iload 7, 2) := by decide +kernel
theorem dL_law_350 : decode cL_law 350 = .ok (.i2l, 1) := by decide +kernel
theorem dL_law_351 : decode cL_law 351 = .ok (.lcmp, 1) := by decide +kernel
theorem dL_law_352 : decode cL_law 352 = .ok (.ifCond .eq 5, 3) := by decide +kernel
theorem dL_law_355 : decode cL_law 355 = .ok (.iconst 0, 1) := by decide +kernel
theorem dL_law_356 : decode cL_law 356 = .ok (.ireturn, 1) := by decide +kernel
theorem dL_law_357 : decode cL_law 357 = .ok (.goto 1340, 3) := by decide +kernel
theorem dL_law_360 : decode cL_law 360 = .ok (.aload_n 1, 1) := by decide +kernel
theorem dL_law_361 : decode cL_law 361 = .ok (.aload_n 0, 1) := by decide +kernel
theorem dL_law_362 : decode cL_law 362 = .ok (.iload 5, 2) := by decide +kernel
theorem dL_law_364 : decode cL_law 364 = .ok (.iconst 1, 1) := by decide +kernel
theorem dL_law_365 : decode cL_law 365 = .ok (.iadd, 1) := by decide +kernel
theorem dL_law_366 : decode cL_law 366 = .ok (.iaload, 1) := by decide +kernel
theorem dL_law_367 : decode cL_law 367 = .ok (.aload_n 0, 1) := by decide +kernel
theorem dL_law_368 : decode cL_law 368 = .ok (.iload 5, 2) := by decide +kernel
theorem dL_law_370 : decode cL_law 370 = .ok (.iconst 2, 1) := by decide +kernel
theorem dL_law_371 : decode cL_law 371 = .ok (.iadd, 1) := by decide +kernel
theorem dL_law_372 : decode cL_law 372 = .ok (.iaload, 1) := by decide +kernel
theorem dL_law_373 : decode cL_law 373 = .ok (.aload_n 3, 1) := by decide +kernel
theorem dL_law_374 : decode cL_law 374 = .ok (.invokestatic 111, 3) := by decide +kernel
theorem dL_law_377 : decode cL_law 377 = .ok (.istore 6, 2) := by decide +kernel
theorem dL_law_379 : decode cL_law 379 = .ok (.aload_n 2, 1) := by decide +kernel
theorem dL_law_380 : decode cL_law 380 = .ok (.aload_n 0, 1) := by decide +kernel
theorem dL_law_381 : decode cL_law 381 = .ok (.iload 5, 2) := by decide +kernel
theorem dL_law_383 : decode cL_law 383 = .ok (.iconst 1, 1) := by decide +kernel
theorem dL_law_384 : decode cL_law 384 = .ok (.iadd, 1) := by decide +kernel
theorem dL_law_385 : decode cL_law 385 = .ok (.iaload, 1) := by decide +kernel
theorem dL_law_386 : decode cL_law 386 = .ok (.aload_n 0, 1) := by decide +kernel
theorem dL_law_387 : decode cL_law 387 = .ok (.iload 5, 2) := by decide +kernel
theorem dL_law_389 : decode cL_law 389 = .ok (.iconst 2, 1) := by decide +kernel
theorem dL_law_390 : decode cL_law 390 = .ok (.iadd, 1) := by decide +kernel
theorem dL_law_391 : decode cL_law 391 = .ok (.iaload, 1) := by decide +kernel
theorem dL_law_392 : decode cL_law 392 = .ok (.invokevirtual 113, 3) := by decide +kernel
theorem dL_law_395 : decode cL_law 395 = .ok (.istore 7, 2) := by decide +kernel
theorem dL_law_397 : decode cL_law 397 = .ok (.aload_n 2, 1) := by decide +kernel
theorem dL_law_398 : decode cL_law 398 = .ok (.invokevirtual 101, 3) := by decide +kernel
theorem dL_law_401 : decode cL_law 401 = .ok (.iload 6, 2) := by decide +kernel
theorem dL_law_403 : decode cL_law 403 = .ok (.if_icmp .eq 5, 3) := by decide +kernel
theorem dL_law_406 : decode cL_law 406 = .ok (.iconst 0, 1) := by decide +kernel
theorem dL_law_407 : decode cL_law 407 = .ok (.ireturn, 1) := by decide +kernel
theorem dL_law_408 : decode cL_law 408 = .ok (.iload 6, 2) := by decide +kernel
theorem dL_law_410 : decode cL_law 410 = .ok (.ifCond .ne 15, 3) := by decide +kernel
theorem dL_law_413 : decode cL_law 413 = .ok (.aload_n 3, 1) := by decide +kernel
theorem dL_law_414 : decode cL_law 414 = .ok (.iconst 0, 1) := by decide +kernel
theorem dL_law_415 : decode cL_law 415 = .ok (.laload, 1) := by decide +kernel
theorem dL_law_416 : decode cL_law 416 = .ok (.iload 7, 2) := by decide +kernel
theorem dL_law_418 : decode cL_law 418 = .ok (.i2l, 1) := by decide +kernel
theorem dL_law_419 : decode cL_law 419 = .ok (.lcmp, 1) := by decide +kernel
theorem dL_law_420 : decode cL_law 420 = .ok (.ifCond .eq 5, 3) := by decide +kernel
theorem dL_law_423 : decode cL_law 423 = .ok (.iconst 0, 1) := by decide +kernel
theorem dL_law_424 : decode cL_law 424 = .ok (.ireturn, 1) := by decide +kernel
theorem dL_law_425 : decode cL_law 425 = .ok (.goto 1272, 3) := by decide +kernel
theorem dL_law_428 : decode cL_law 428 = .ok (.aload_n 1, 1) := by decide +kernel
theorem dL_law_429 : decode cL_law 429 = .ok (.aload_n 0, 1) := by decide +kernel
theorem dL_law_430 : decode cL_law 430 = .ok (.iload 5, 2) := by decide +kernel
theorem dL_law_432 : decode cL_law 432 = .ok (.iconst 1, 1) := by decide +kernel
theorem dL_law_433 : decode cL_law 433 = .ok (.iadd, 1) := by decide +kernel
theorem dL_law_434 : decode cL_law 434 = .ok (.iaload, 1) := by decide +kernel
theorem dL_law_435 : decode cL_law 435 = .ok (.aload_n 0, 1) := by decide +kernel
theorem dL_law_436 : decode cL_law 436 = .ok (.iload 5, 2) := by decide +kernel
theorem dL_law_438 : decode cL_law 438 = .ok (.iconst 2, 1) := by decide +kernel
theorem dL_law_439 : decode cL_law 439 = .ok (.iadd, 1) := by decide +kernel
theorem dL_law_440 : decode cL_law 440 = .ok (.iaload, 1) := by decide +kernel
theorem dL_law_441 : decode cL_law 441 = .ok (.aload_n 0, 1) := by decide +kernel
theorem dL_law_442 : decode cL_law 442 = .ok (.iload 5, 2) := by decide +kernel
theorem dL_law_444 : decode cL_law 444 = .ok (.iconst 3, 1) := by decide +kernel
theorem dL_law_445 : decode cL_law 445 = .ok (.iadd, 1) := by decide +kernel
theorem dL_law_446 : decode cL_law 446 = .ok (.iaload, 1) := by decide +kernel
theorem dL_law_447 : decode cL_law 447 = .ok (.invokestatic 114, 3) := by decide +kernel
theorem dL_law_450 : decode cL_law 450 = .ok (.istore 6, 2) := by decide +kernel
theorem dL_law_452 : decode cL_law 452 = .ok (.aload_n 2, 1) := by decide +kernel
theorem dL_law_453 : decode cL_law 453 = .ok (.aload_n 0, 1) := by decide +kernel
theorem dL_law_454 : decode cL_law 454 = .ok (.iload 5, 2) := by decide +kernel
theorem dL_law_456 : decode cL_law 456 = .ok (.iconst 1, 1) := by decide +kernel
theorem dL_law_457 : decode cL_law 457 = .ok (.iadd, 1) := by decide +kernel
theorem dL_law_458 : decode cL_law 458 = .ok (.iaload, 1) := by decide +kernel
theorem dL_law_459 : decode cL_law 459 = .ok (.aload_n 0, 1) := by decide +kernel
theorem dL_law_460 : decode cL_law 460 = .ok (.iload 5, 2) := by decide +kernel
theorem dL_law_462 : decode cL_law 462 = .ok (.iconst 2, 1) := by decide +kernel
theorem dL_law_463 : decode cL_law 463 = .ok (.iadd, 1) := by decide +kernel
theorem dL_law_464 : decode cL_law 464 = .ok (.iaload, 1) := by decide +kernel
theorem dL_law_465 : decode cL_law 465 = .ok (.aload_n 0, 1) := by decide +kernel
theorem dL_law_466 : decode cL_law 466 = .ok (.iload 5, 2) := by decide +kernel
theorem dL_law_468 : decode cL_law 468 = .ok (.iconst 3, 1) := by decide +kernel
theorem dL_law_469 : decode cL_law 469 = .ok (.iadd, 1) := by decide +kernel
theorem dL_law_470 : decode cL_law 470 = .ok (.iaload, 1) := by decide +kernel
theorem dL_law_471 : decode cL_law 471 = .ok (.invokevirtual 117, 3) := by decide +kernel
theorem dL_law_474 : decode cL_law 474 = .ok (.aload_n 2, 1) := by decide +kernel
theorem dL_law_475 : decode cL_law 475 = .ok (.invokevirtual 101, 3) := by decide +kernel
theorem dL_law_478 : decode cL_law 478 = .ok (.iload 6, 2) := by decide +kernel
theorem dL_law_480 : decode cL_law 480 = .ok (.if_icmp .eq 5, 3) := by decide +kernel
theorem dL_law_483 : decode cL_law 483 = .ok (.iconst 0, 1) := by decide +kernel
theorem dL_law_484 : decode cL_law 484 = .ok (.ireturn, 1) := by decide +kernel
theorem dL_law_485 : decode cL_law 485 = .ok (.goto 1212, 3) := by decide +kernel
theorem dL_law_488 : decode cL_law 488 = .ok (.aload_n 1, 1) := by decide +kernel
theorem dL_law_489 : decode cL_law 489 = .ok (.aload_n 0, 1) := by decide +kernel
theorem dL_law_490 : decode cL_law 490 = .ok (.iload 5, 2) := by decide +kernel
theorem dL_law_492 : decode cL_law 492 = .ok (.iconst 1, 1) := by decide +kernel
theorem dL_law_493 : decode cL_law 493 = .ok (.iadd, 1) := by decide +kernel
theorem dL_law_494 : decode cL_law 494 = .ok (.iaload, 1) := by decide +kernel
theorem dL_law_495 : decode cL_law 495 = .ok (.aload_n 0, 1) := by decide +kernel
theorem dL_law_496 : decode cL_law 496 = .ok (.iload 5, 2) := by decide +kernel
theorem dL_law_498 : decode cL_law 498 = .ok (.iconst 2, 1) := by decide +kernel
theorem dL_law_499 : decode cL_law 499 = .ok (.iadd, 1) := by decide +kernel
theorem dL_law_500 : decode cL_law 500 = .ok (.iaload, 1) := by decide +kernel
theorem dL_law_501 : decode cL_law 501 = .ok (.aload_n 3, 1) := by decide +kernel
theorem dL_law_502 : decode cL_law 502 = .ok (.invokestatic 118, 3) := by decide +kernel
theorem dL_law_505 : decode cL_law 505 = .ok (.istore 6, 2) := by decide +kernel
theorem dL_law_507 : decode cL_law 507 = .ok (.aload_n 2, 1) := by decide +kernel
theorem dL_law_508 : decode cL_law 508 = .ok (.aload_n 0, 1) := by decide +kernel
theorem dL_law_509 : decode cL_law 509 = .ok (.iload 5, 2) := by decide +kernel
theorem dL_law_511 : decode cL_law 511 = .ok (.iconst 1, 1) := by decide +kernel
theorem dL_law_512 : decode cL_law 512 = .ok (.iadd, 1) := by decide +kernel
theorem dL_law_513 : decode cL_law 513 = .ok (.iaload, 1) := by decide +kernel
theorem dL_law_514 : decode cL_law 514 = .ok (.aload_n 0, 1) := by decide +kernel
theorem dL_law_515 : decode cL_law 515 = .ok (.iload 5, 2) := by decide +kernel
theorem dL_law_517 : decode cL_law 517 = .ok (.iconst 2, 1) := by decide +kernel
theorem dL_law_518 : decode cL_law 518 = .ok (.iadd, 1) := by decide +kernel
theorem dL_law_519 : decode cL_law 519 = .ok (.iaload, 1) := by decide +kernel
theorem dL_law_520 : decode cL_law 520 = .ok (.invokevirtual 120, 3) := by decide +kernel
theorem dL_law_523 : decode cL_law 523 = .ok (.istore 7, 2) := by decide +kernel
theorem dL_law_525 : decode cL_law 525 = .ok (.aload_n 2, 1) := by decide +kernel
theorem dL_law_526 : decode cL_law 526 = .ok (.invokevirtual 101, 3) := by decide +kernel
theorem dL_law_529 : decode cL_law 529 = .ok (.iload 6, 2) := by decide +kernel
theorem dL_law_531 : decode cL_law 531 = .ok (.if_icmp .eq 5, 3) := by decide +kernel
theorem dL_law_534 : decode cL_law 534 = .ok (.iconst 0, 1) := by decide +kernel
theorem dL_law_535 : decode cL_law 535 = .ok (.ireturn, 1) := by decide +kernel
theorem dL_law_536 : decode cL_law 536 = .ok (.iload 6, 2) := by decide +kernel
theorem dL_law_538 : decode cL_law 538 = .ok (.ifCond .ne 15, 3) := by decide +kernel
theorem dL_law_541 : decode cL_law 541 = .ok (.aload_n 3, 1) := by decide +kernel
theorem dL_law_542 : decode cL_law 542 = .ok (.iconst 0, 1) := by decide +kernel
theorem dL_law_543 : decode cL_law 543 = .ok (.laload, 1) := by decide +kernel
theorem dL_law_544 : decode cL_law 544 = .ok (.iload 7, 2) := by decide +kernel
theorem dL_law_546 : decode cL_law 546 = .ok (.i2l, 1) := by decide +kernel
theorem dL_law_547 : decode cL_law 547 = .ok (.lcmp, 1) := by decide +kernel
theorem dL_law_548 : decode cL_law 548 = .ok (.ifCond .eq 5, 3) := by decide +kernel
theorem dL_law_551 : decode cL_law 551 = .ok (.iconst 0, 1) := by decide +kernel
theorem dL_law_552 : decode cL_law 552 = .ok (.ireturn, 1) := by decide +kernel
theorem dL_law_553 : decode cL_law 553 = .ok (.goto 1144, 3) := by decide +kernel
theorem dL_law_556 : decode cL_law 556 = .ok (.aload_n 1, 1) := by decide +kernel
theorem dL_law_557 : decode cL_law 557 = .ok (.aload_n 0, 1) := by decide +kernel
theorem dL_law_558 : decode cL_law 558 = .ok (.iload 5, 2) := by decide +kernel
theorem dL_law_560 : decode cL_law 560 = .ok (.iconst 1, 1) := by decide +kernel
theorem dL_law_561 : decode cL_law 561 = .ok (.iadd, 1) := by decide +kernel
theorem dL_law_562 : decode cL_law 562 = .ok (.iaload, 1) := by decide +kernel
theorem dL_law_563 : decode cL_law 563 = .ok (.aload_n 0, 1) := by decide +kernel
theorem dL_law_564 : decode cL_law 564 = .ok (.iload 5, 2) := by decide +kernel
theorem dL_law_566 : decode cL_law 566 = .ok (.iconst 2, 1) := by decide +kernel
theorem dL_law_567 : decode cL_law 567 = .ok (.iadd, 1) := by decide +kernel
theorem dL_law_568 : decode cL_law 568 = .ok (.iaload, 1) := by decide +kernel
theorem dL_law_569 : decode cL_law 569 = .ok (.aload_n 3, 1) := by decide +kernel
theorem dL_law_570 : decode cL_law 570 = .ok (.invokestatic 121, 3) := by decide +kernel
theorem dL_law_573 : decode cL_law 573 = .ok (.istore 6, 2) := by decide +kernel
theorem dL_law_575 : decode cL_law 575 = .ok (.aload_n 2, 1) := by decide +kernel
theorem dL_law_576 : decode cL_law 576 = .ok (.aload_n 0, 1) := by decide +kernel
theorem dL_law_577 : decode cL_law 577 = .ok (.iload 5, 2) := by decide +kernel
theorem dL_law_579 : decode cL_law 579 = .ok (.iconst 1, 1) := by decide +kernel
theorem dL_law_580 : decode cL_law 580 = .ok (.iadd, 1) := by decide +kernel
theorem dL_law_581 : decode cL_law 581 = .ok (.iaload, 1) := by decide +kernel
theorem dL_law_582 : decode cL_law 582 = .ok (.aload_n 0, 1) := by decide +kernel
theorem dL_law_583 : decode cL_law 583 = .ok (.iload 5, 2) := by decide +kernel
theorem dL_law_585 : decode cL_law 585 = .ok (.iconst 2, 1) := by decide +kernel
theorem dL_law_586 : decode cL_law 586 = .ok (.iadd, 1) := by decide +kernel
theorem dL_law_587 : decode cL_law 587 = .ok (.iaload, 1) := by decide +kernel
theorem dL_law_588 : decode cL_law 588 = .ok (.invokevirtual 123, 3) := by decide +kernel
theorem dL_law_591 : decode cL_law 591 = .ok (.istore 7, 2) := by decide +kernel
theorem dL_law_593 : decode cL_law 593 = .ok (.aload_n 2, 1) := by decide +kernel
theorem dL_law_594 : decode cL_law 594 = .ok (.invokevirtual 101, 3) := by decide +kernel
theorem dL_law_597 : decode cL_law 597 = .ok (.iload 6, 2) := by decide +kernel
theorem dL_law_599 : decode cL_law 599 = .ok (.if_icmp .eq 5, 3) := by decide +kernel
theorem dL_law_602 : decode cL_law 602 = .ok (.iconst 0, 1) := by decide +kernel
theorem dL_law_603 : decode cL_law 603 = .ok (.ireturn, 1) := by decide +kernel
theorem dL_law_604 : decode cL_law 604 = .ok (.iload 6, 2) := by decide +kernel
theorem dL_law_606 : decode cL_law 606 = .ok (.ifCond .ne 15, 3) := by decide +kernel
theorem dL_law_609 : decode cL_law 609 = .ok (.aload_n 3, 1) := by decide +kernel
theorem dL_law_610 : decode cL_law 610 = .ok (.iconst 0, 1) := by decide +kernel
theorem dL_law_611 : decode cL_law 611 = .ok (.laload, 1) := by decide +kernel
theorem dL_law_612 : decode cL_law 612 = .ok (.iload 7, 2) := by decide +kernel
theorem dL_law_614 : decode cL_law 614 = .ok (.i2l, 1) := by decide +kernel
theorem dL_law_615 : decode cL_law 615 = .ok (.lcmp, 1) := by decide +kernel
theorem dL_law_616 : decode cL_law 616 = .ok (.ifCond .eq 5, 3) := by decide +kernel
theorem dL_law_619 : decode cL_law 619 = .ok (.iconst 0, 1) := by decide +kernel
theorem dL_law_620 : decode cL_law 620 = .ok (.ireturn, 1) := by decide +kernel
theorem dL_law_621 : decode cL_law 621 = .ok (.goto 1076, 3) := by decide +kernel
theorem dL_law_624 : decode cL_law 624 = .ok (.aload_n 1, 1) := by decide +kernel
theorem dL_law_625 : decode cL_law 625 = .ok (.aload_n 0, 1) := by decide +kernel
theorem dL_law_626 : decode cL_law 626 = .ok (.iload 5, 2) := by decide +kernel
theorem dL_law_628 : decode cL_law 628 = .ok (.iconst 1, 1) := by decide +kernel
theorem dL_law_629 : decode cL_law 629 = .ok (.iadd, 1) := by decide +kernel
theorem dL_law_630 : decode cL_law 630 = .ok (.iaload, 1) := by decide +kernel
theorem dL_law_631 : decode cL_law 631 = .ok (.aload_n 0, 1) := by decide +kernel
theorem dL_law_632 : decode cL_law 632 = .ok (.iload 5, 2) := by decide +kernel
theorem dL_law_634 : decode cL_law 634 = .ok (.iconst 2, 1) := by decide +kernel
theorem dL_law_635 : decode cL_law 635 = .ok (.iadd, 1) := by decide +kernel
theorem dL_law_636 : decode cL_law 636 = .ok (.iaload, 1) := by decide +kernel
theorem dL_law_637 : decode cL_law 637 = .ok (.aload_n 0, 1) := by decide +kernel
theorem dL_law_638 : decode cL_law 638 = .ok (.iload 5, 2) := by decide +kernel
theorem dL_law_640 : decode cL_law 640 = .ok (.iconst 3, 1) := by decide +kernel
theorem dL_law_641 : decode cL_law 641 = .ok (.iadd, 1) := by decide +kernel
theorem dL_law_642 : decode cL_law 642 = .ok (.iaload, 1) := by decide +kernel
theorem dL_law_643 : decode cL_law 643 = .ok (.invokestatic 124, 3) := by decide +kernel
theorem dL_law_646 : decode cL_law 646 = .ok (.istore 6, 2) := by decide +kernel
theorem dL_law_648 : decode cL_law 648 = .ok (.aload_n 2, 1) := by decide +kernel
theorem dL_law_649 : decode cL_law 649 = .ok (.aload_n 0, 1) := by decide +kernel
theorem dL_law_650 : decode cL_law 650 = .ok (.iload 5, 2) := by decide +kernel
theorem dL_law_652 : decode cL_law 652 = .ok (.iconst 1, 1) := by decide +kernel
theorem dL_law_653 : decode cL_law 653 = .ok (.iadd, 1) := by decide +kernel
theorem dL_law_654 : decode cL_law 654 = .ok (.iaload, 1) := by decide +kernel
theorem dL_law_655 : decode cL_law 655 = .ok (.aload_n 0, 1) := by decide +kernel
theorem dL_law_656 : decode cL_law 656 = .ok (.iload 5, 2) := by decide +kernel
theorem dL_law_658 : decode cL_law 658 = .ok (.iconst 2, 1) := by decide +kernel
theorem dL_law_659 : decode cL_law 659 = .ok (.iadd, 1) := by decide +kernel
theorem dL_law_660 : decode cL_law 660 = .ok (.iaload, 1) := by decide +kernel
theorem dL_law_661 : decode cL_law 661 = .ok (.aload_n 0, 1) := by decide +kernel
theorem dL_law_662 : decode cL_law 662 = .ok (.iload 5, 2) := by decide +kernel
theorem dL_law_664 : decode cL_law 664 = .ok (.iconst 3, 1) := by decide +kernel
theorem dL_law_665 : decode cL_law 665 = .ok (.iadd, 1) := by decide +kernel
theorem dL_law_666 : decode cL_law 666 = .ok (.iaload, 1) := by decide +kernel
theorem dL_law_667 : decode cL_law 667 = .ok (.invokevirtual 126, 3) := by decide +kernel
theorem dL_law_670 : decode cL_law 670 = .ok (.aload_n 2, 1) := by decide +kernel
theorem dL_law_671 : decode cL_law 671 = .ok (.invokevirtual 101, 3) := by decide +kernel
theorem dL_law_674 : decode cL_law 674 = .ok (.iload 6, 2) := by decide +kernel
theorem dL_law_676 : decode cL_law 676 = .ok (.if_icmp .eq 5, 3) := by decide +kernel
theorem dL_law_679 : decode cL_law 679 = .ok (.iconst 0, 1) := by decide +kernel
theorem dL_law_680 : decode cL_law 680 = .ok (.ireturn, 1) := by decide +kernel
theorem dL_law_681 : decode cL_law 681 = .ok (.goto 1016, 3) := by decide +kernel
theorem dL_law_684 : decode cL_law 684 = .ok (.aload_n 1, 1) := by decide +kernel
theorem dL_law_685 : decode cL_law 685 = .ok (.aload_n 0, 1) := by decide +kernel
theorem dL_law_686 : decode cL_law 686 = .ok (.iload 5, 2) := by decide +kernel
theorem dL_law_688 : decode cL_law 688 = .ok (.iconst 1, 1) := by decide +kernel
theorem dL_law_689 : decode cL_law 689 = .ok (.iadd, 1) := by decide +kernel
theorem dL_law_690 : decode cL_law 690 = .ok (.iaload, 1) := by decide +kernel
theorem dL_law_691 : decode cL_law 691 = .ok (.aload_n 3, 1) := by decide +kernel
theorem dL_law_692 : decode cL_law 692 = .ok (.invokestatic 127, 3) := by decide +kernel
theorem dL_law_695 : decode cL_law 695 = .ok (.istore 6, 2) := by decide +kernel
theorem dL_law_697 : decode cL_law 697 = .ok (.aload_n 2, 1) := by decide +kernel
theorem dL_law_698 : decode cL_law 698 = .ok (.aload_n 0, 1) := by decide +kernel
theorem dL_law_699 : decode cL_law 699 = .ok (.iload 5, 2) := by decide +kernel
theorem dL_law_701 : decode cL_law 701 = .ok (.iconst 1, 1) := by decide +kernel
theorem dL_law_702 : decode cL_law 702 = .ok (.iadd, 1) := by decide +kernel
theorem dL_law_703 : decode cL_law 703 = .ok (.iaload, 1) := by decide +kernel
theorem dL_law_704 : decode cL_law 704 = .ok (.invokevirtual 130, 3) := by decide +kernel
theorem dL_law_707 : decode cL_law 707 = .ok (.istore 7, 2) := by decide +kernel
theorem dL_law_709 : decode cL_law 709 = .ok (.aload_n 2, 1) := by decide +kernel
theorem dL_law_710 : decode cL_law 710 = .ok (.invokevirtual 101, 3) := by decide +kernel
theorem dL_law_713 : decode cL_law 713 = .ok (.iload 6, 2) := by decide +kernel
theorem dL_law_715 : decode cL_law 715 = .ok (.if_icmp .eq 5, 3) := by decide +kernel
theorem dL_law_718 : decode cL_law 718 = .ok (.iconst 0, 1) := by decide +kernel
theorem dL_law_719 : decode cL_law 719 = .ok (.ireturn, 1) := by decide +kernel
theorem dL_law_720 : decode cL_law 720 = .ok (.iload 6, 2) := by decide +kernel
theorem dL_law_722 : decode cL_law 722 = .ok (.ifCond .ne 15, 3) := by decide +kernel
theorem dL_law_725 : decode cL_law 725 = .ok (.aload_n 3, 1) := by decide +kernel
theorem dL_law_726 : decode cL_law 726 = .ok (.iconst 0, 1) := by decide +kernel
theorem dL_law_727 : decode cL_law 727 = .ok (.laload, 1) := by decide +kernel
theorem dL_law_728 : decode cL_law 728 = .ok (.iload 7, 2) := by decide +kernel
theorem dL_law_730 : decode cL_law 730 = .ok (.i2l, 1) := by decide +kernel
theorem dL_law_731 : decode cL_law 731 = .ok (.lcmp, 1) := by decide +kernel
theorem dL_law_732 : decode cL_law 732 = .ok (.ifCond .eq 5, 3) := by decide +kernel
theorem dL_law_735 : decode cL_law 735 = .ok (.iconst 0, 1) := by decide +kernel
theorem dL_law_736 : decode cL_law 736 = .ok (.ireturn, 1) := by decide +kernel
theorem dL_law_737 : decode cL_law 737 = .ok (.goto 960, 3) := by decide +kernel
theorem dL_law_740 : decode cL_law 740 = .ok (.aload_n 1, 1) := by decide +kernel
theorem dL_law_741 : decode cL_law 741 = .ok (.aload_n 0, 1) := by decide +kernel
theorem dL_law_742 : decode cL_law 742 = .ok (.iload 5, 2) := by decide +kernel
theorem dL_law_744 : decode cL_law 744 = .ok (.iconst 1, 1) := by decide +kernel
theorem dL_law_745 : decode cL_law 745 = .ok (.iadd, 1) := by decide +kernel
theorem dL_law_746 : decode cL_law 746 = .ok (.iaload, 1) := by decide +kernel
theorem dL_law_747 : decode cL_law 747 = .ok (.aload_n 0, 1) := by decide +kernel
theorem dL_law_748 : decode cL_law 748 = .ok (.iload 5, 2) := by decide +kernel
theorem dL_law_750 : decode cL_law 750 = .ok (.iconst 2, 1) := by decide +kernel
theorem dL_law_751 : decode cL_law 751 = .ok (.iadd, 1) := by decide +kernel
theorem dL_law_752 : decode cL_law 752 = .ok (.iaload, 1) := by decide +kernel
theorem dL_law_753 : decode cL_law 753 = .ok (.aload_n 3, 1) := by decide +kernel
theorem dL_law_754 : decode cL_law 754 = .ok (.invokestatic 131, 3) := by decide +kernel
theorem dL_law_757 : decode cL_law 757 = .ok (.istore 6, 2) := by decide +kernel
theorem dL_law_759 : decode cL_law 759 = .ok (.aload_n 2, 1) := by decide +kernel
theorem dL_law_760 : decode cL_law 760 = .ok (.aload_n 0, 1) := by decide +kernel
theorem dL_law_761 : decode cL_law 761 = .ok (.iload 5, 2) := by decide +kernel
theorem dL_law_763 : decode cL_law 763 = .ok (.iconst 1, 1) := by decide +kernel
theorem dL_law_764 : decode cL_law 764 = .ok (.iadd, 1) := by decide +kernel
theorem dL_law_765 : decode cL_law 765 = .ok (.iaload, 1) := by decide +kernel
theorem dL_law_766 : decode cL_law 766 = .ok (.aload_n 0, 1) := by decide +kernel
theorem dL_law_767 : decode cL_law 767 = .ok (.iload 5, 2) := by decide +kernel
theorem dL_law_769 : decode cL_law 769 = .ok (.iconst 2, 1) := by decide +kernel
theorem dL_law_770 : decode cL_law 770 = .ok (.iadd, 1) := by decide +kernel
theorem dL_law_771 : decode cL_law 771 = .ok (.iaload, 1) := by decide +kernel
theorem dL_law_772 : decode cL_law 772 = .ok (.invokevirtual 133, 3) := by decide +kernel
theorem dL_law_775 : decode cL_law 775 = .ok (.istore 7, 2) := by decide +kernel
theorem dL_law_777 : decode cL_law 777 = .ok (.aload_n 2, 1) := by decide +kernel
theorem dL_law_778 : decode cL_law 778 = .ok (.invokevirtual 101, 3) := by decide +kernel
theorem dL_law_781 : decode cL_law 781 = .ok (.iload 6, 2) := by decide +kernel
theorem dL_law_783 : decode cL_law 783 = .ok (.if_icmp .eq 5, 3) := by decide +kernel
theorem dL_law_786 : decode cL_law 786 = .ok (.iconst 0, 1) := by decide +kernel
theorem dL_law_787 : decode cL_law 787 = .ok (.ireturn, 1) := by decide +kernel
theorem dL_law_788 : decode cL_law 788 = .ok (.iload 6, 2) := by decide +kernel
theorem dL_law_790 : decode cL_law 790 = .ok (.ifCond .ne 15, 3) := by decide +kernel
theorem dL_law_793 : decode cL_law 793 = .ok (.aload_n 3, 1) := by decide +kernel
theorem dL_law_794 : decode cL_law 794 = .ok (.iconst 0, 1) := by decide +kernel
theorem dL_law_795 : decode cL_law 795 = .ok (.laload, 1) := by decide +kernel
theorem dL_law_796 : decode cL_law 796 = .ok (.iload 7, 2) := by decide +kernel
theorem dL_law_798 : decode cL_law 798 = .ok (.i2l, 1) := by decide +kernel
theorem dL_law_799 : decode cL_law 799 = .ok (.lcmp, 1) := by decide +kernel
theorem dL_law_800 : decode cL_law 800 = .ok (.ifCond .eq 5, 3) := by decide +kernel
theorem dL_law_803 : decode cL_law 803 = .ok (.iconst 0, 1) := by decide +kernel
theorem dL_law_804 : decode cL_law 804 = .ok (.ireturn, 1) := by decide +kernel
theorem dL_law_805 : decode cL_law 805 = .ok (.goto 892, 3) := by decide +kernel
theorem dL_law_808 : decode cL_law 808 = .ok (.aload_n 1, 1) := by decide +kernel
theorem dL_law_809 : decode cL_law 809 = .ok (.aload_n 0, 1) := by decide +kernel
theorem dL_law_810 : decode cL_law 810 = .ok (.iload 5, 2) := by decide +kernel
theorem dL_law_812 : decode cL_law 812 = .ok (.iconst 1, 1) := by decide +kernel
theorem dL_law_813 : decode cL_law 813 = .ok (.iadd, 1) := by decide +kernel
theorem dL_law_814 : decode cL_law 814 = .ok (.iaload, 1) := by decide +kernel
theorem dL_law_815 : decode cL_law 815 = .ok (.aload_n 0, 1) := by decide +kernel
theorem dL_law_816 : decode cL_law 816 = .ok (.iload 5, 2) := by decide +kernel
theorem dL_law_818 : decode cL_law 818 = .ok (.iconst 2, 1) := by decide +kernel
theorem dL_law_819 : decode cL_law 819 = .ok (.iadd, 1) := by decide +kernel
theorem dL_law_820 : decode cL_law 820 = .ok (.iaload, 1) := by decide +kernel
theorem dL_law_821 : decode cL_law 821 = .ok (.aload_n 3, 1) := by decide +kernel
theorem dL_law_822 : decode cL_law 822 = .ok (.invokestatic 134, 3) := by decide +kernel
theorem dL_law_825 : decode cL_law 825 = .ok (.istore 6, 2) := by decide +kernel
theorem dL_law_827 : decode cL_law 827 = .ok (.aload_n 2, 1) := by decide +kernel
theorem dL_law_828 : decode cL_law 828 = .ok (.aload_n 0, 1) := by decide +kernel
theorem dL_law_829 : decode cL_law 829 = .ok (.iload 5, 2) := by decide +kernel
theorem dL_law_831 : decode cL_law 831 = .ok (.iconst 1, 1) := by decide +kernel
theorem dL_law_832 : decode cL_law 832 = .ok (.iadd, 1) := by decide +kernel
theorem dL_law_833 : decode cL_law 833 = .ok (.iaload, 1) := by decide +kernel
theorem dL_law_834 : decode cL_law 834 = .ok (.aload_n 0, 1) := by decide +kernel
theorem dL_law_835 : decode cL_law 835 = .ok (.iload 5, 2) := by decide +kernel
theorem dL_law_837 : decode cL_law 837 = .ok (.iconst 2, 1) := by decide +kernel
theorem dL_law_838 : decode cL_law 838 = .ok (.iadd, 1) := by decide +kernel
theorem dL_law_839 : decode cL_law 839 = .ok (.iaload, 1) := by decide +kernel
theorem dL_law_840 : decode cL_law 840 = .ok (.invokevirtual 136, 3) := by decide +kernel
theorem dL_law_843 : decode cL_law 843 = .ok (.istore 7, 2) := by decide +kernel
theorem dL_law_845 : decode cL_law 845 = .ok (.aload_n 2, 1) := by decide +kernel
theorem dL_law_846 : decode cL_law 846 = .ok (.invokevirtual 101, 3) := by decide +kernel
theorem dL_law_849 : decode cL_law 849 = .ok (.iload 6, 2) := by decide +kernel
theorem dL_law_851 : decode cL_law 851 = .ok (.if_icmp .eq 5, 3) := by decide +kernel
theorem dL_law_854 : decode cL_law 854 = .ok (.iconst 0, 1) := by decide +kernel
theorem dL_law_855 : decode cL_law 855 = .ok (.ireturn, 1) := by decide +kernel
theorem dL_law_856 : decode cL_law 856 = .ok (.iload 6, 2) := by decide +kernel
theorem dL_law_858 : decode cL_law 858 = .ok (.ifCond .ne 15, 3) := by decide +kernel
theorem dL_law_861 : decode cL_law 861 = .ok (.aload_n 3, 1) := by decide +kernel
theorem dL_law_862 : decode cL_law 862 = .ok (.iconst 0, 1) := by decide +kernel
theorem dL_law_863 : decode cL_law 863 = .ok (.laload, 1) := by decide +kernel
theorem dL_law_864 : decode cL_law 864 = .ok (.iload 7, 2) := by decide +kernel
theorem dL_law_866 : decode cL_law 866 = .ok (.i2l, 1) := by decide +kernel
theorem dL_law_867 : decode cL_law 867 = .ok (.lcmp, 1) := by decide +kernel
theorem dL_law_868 : decode cL_law 868 = .ok (.ifCond .eq 5, 3) := by decide +kernel
theorem dL_law_871 : decode cL_law 871 = .ok (.iconst 0, 1) := by decide +kernel
theorem dL_law_872 : decode cL_law 872 = .ok (.ireturn, 1) := by decide +kernel
theorem dL_law_873 : decode cL_law 873 = .ok (.goto 824, 3) := by decide +kernel
theorem dL_law_876 : decode cL_law 876 = .ok (.aload_n 1, 1) := by decide +kernel
theorem dL_law_877 : decode cL_law 877 = .ok (.aload_n 0, 1) := by decide +kernel
theorem dL_law_878 : decode cL_law 878 = .ok (.iload 5, 2) := by decide +kernel
theorem dL_law_880 : decode cL_law 880 = .ok (.iconst 1, 1) := by decide +kernel
theorem dL_law_881 : decode cL_law 881 = .ok (.iadd, 1) := by decide +kernel
theorem dL_law_882 : decode cL_law 882 = .ok (.iaload, 1) := by decide +kernel
theorem dL_law_883 : decode cL_law 883 = .ok (.aload_n 0, 1) := by decide +kernel
theorem dL_law_884 : decode cL_law 884 = .ok (.iload 5, 2) := by decide +kernel
theorem dL_law_886 : decode cL_law 886 = .ok (.iconst 2, 1) := by decide +kernel
theorem dL_law_887 : decode cL_law 887 = .ok (.iadd, 1) := by decide +kernel
theorem dL_law_888 : decode cL_law 888 = .ok (.iaload, 1) := by decide +kernel
theorem dL_law_889 : decode cL_law 889 = .ok (.aload_n 3, 1) := by decide +kernel
theorem dL_law_890 : decode cL_law 890 = .ok (.invokestatic 137, 3) := by decide +kernel
theorem dL_law_893 : decode cL_law 893 = .ok (.istore 6, 2) := by decide +kernel
theorem dL_law_895 : decode cL_law 895 = .ok (.aload_n 2, 1) := by decide +kernel
theorem dL_law_896 : decode cL_law 896 = .ok (.aload_n 0, 1) := by decide +kernel
theorem dL_law_897 : decode cL_law 897 = .ok (.iload 5, 2) := by decide +kernel
theorem dL_law_899 : decode cL_law 899 = .ok (.iconst 1, 1) := by decide +kernel
theorem dL_law_900 : decode cL_law 900 = .ok (.iadd, 1) := by decide +kernel
theorem dL_law_901 : decode cL_law 901 = .ok (.iaload, 1) := by decide +kernel
theorem dL_law_902 : decode cL_law 902 = .ok (.aload_n 0, 1) := by decide +kernel
theorem dL_law_903 : decode cL_law 903 = .ok (.iload 5, 2) := by decide +kernel
theorem dL_law_905 : decode cL_law 905 = .ok (.iconst 2, 1) := by decide +kernel
theorem dL_law_906 : decode cL_law 906 = .ok (.iadd, 1) := by decide +kernel
theorem dL_law_907 : decode cL_law 907 = .ok (.iaload, 1) := by decide +kernel
theorem dL_law_908 : decode cL_law 908 = .ok (.invokevirtual 139, 3) := by decide +kernel
theorem dL_law_911 : decode cL_law 911 = .ok (.istore 7, 2) := by decide +kernel
theorem dL_law_913 : decode cL_law 913 = .ok (.aload_n 2, 1) := by decide +kernel
theorem dL_law_914 : decode cL_law 914 = .ok (.invokevirtual 101, 3) := by decide +kernel
theorem dL_law_917 : decode cL_law 917 = .ok (.iload 6, 2) := by decide +kernel
theorem dL_law_919 : decode cL_law 919 = .ok (.if_icmp .eq 5, 3) := by decide +kernel
theorem dL_law_922 : decode cL_law 922 = .ok (.iconst 0, 1) := by decide +kernel
theorem dL_law_923 : decode cL_law 923 = .ok (.ireturn, 1) := by decide +kernel
theorem dL_law_924 : decode cL_law 924 = .ok (.iload 6, 2) := by decide +kernel
theorem dL_law_926 : decode cL_law 926 = .ok (.ifCond .ne 22, 3) := by decide +kernel
theorem dL_law_929 : decode cL_law 929 = .ok (.aload_n 3, 1) := by decide +kernel
theorem dL_law_930 : decode cL_law 930 = .ok (.iconst 0, 1) := by decide +kernel
theorem dL_law_931 : decode cL_law 931 = .ok (.laload, 1) := by decide +kernel
theorem dL_law_932 : decode cL_law 932 = .ok (.iload 7, 2) := by decide +kernel
theorem dL_law_934 : decode cL_law 934 = .ok (.ifCond .eq 7, 3) := by decide +kernel
theorem dL_law_937 : decode cL_law 937 = .ok (.lconst 1, 1) := by decide +kernel
theorem dL_law_938 : decode cL_law 938 = .ok (.goto 4, 3) := by decide +kernel
theorem dL_law_941 : decode cL_law 941 = .ok (.lconst 0, 1) := by decide +kernel
theorem dL_law_942 : decode cL_law 942 = .ok (.lcmp, 1) := by decide +kernel
theorem dL_law_943 : decode cL_law 943 = .ok (.ifCond .eq 5, 3) := by decide +kernel
theorem dL_law_946 : decode cL_law 946 = .ok (.iconst 0, 1) := by decide +kernel
theorem dL_law_947 : decode cL_law 947 = .ok (.ireturn, 1) := by decide +kernel
theorem dL_law_948 : decode cL_law 948 = .ok (.goto 749, 3) := by decide +kernel
theorem dL_law_951 : decode cL_law 951 = .ok (.aload_n 1, 1) := by decide +kernel
theorem dL_law_952 : decode cL_law 952 = .ok (.aload_n 0, 1) := by decide +kernel
theorem dL_law_953 : decode cL_law 953 = .ok (.iload 5, 2) := by decide +kernel
theorem dL_law_955 : decode cL_law 955 = .ok (.iconst 1, 1) := by decide +kernel
theorem dL_law_956 : decode cL_law 956 = .ok (.iadd, 1) := by decide +kernel
theorem dL_law_957 : decode cL_law 957 = .ok (.iaload, 1) := by decide +kernel
theorem dL_law_958 : decode cL_law 958 = .ok (.aload_n 3, 1) := by decide +kernel
theorem dL_law_959 : decode cL_law 959 = .ok (.invokestatic 140, 3) := by decide +kernel
theorem dL_law_962 : decode cL_law 962 = .ok (.istore 6, 2) := by decide +kernel
theorem dL_law_964 : decode cL_law 964 = .ok (.aload_n 2, 1) := by decide +kernel
theorem dL_law_965 : decode cL_law 965 = .ok (.aload_n 0, 1) := by decide +kernel
theorem dL_law_966 : decode cL_law 966 = .ok (.iload 5, 2) := by decide +kernel
theorem dL_law_968 : decode cL_law 968 = .ok (.iconst 1, 1) := by decide +kernel
theorem dL_law_969 : decode cL_law 969 = .ok (.iadd, 1) := by decide +kernel
theorem dL_law_970 : decode cL_law 970 = .ok (.iaload, 1) := by decide +kernel
theorem dL_law_971 : decode cL_law 971 = .ok (.invokevirtual 142, 3) := by decide +kernel
theorem dL_law_974 : decode cL_law 974 = .ok (.istore 7, 2) := by decide +kernel
theorem dL_law_976 : decode cL_law 976 = .ok (.aload_n 2, 1) := by decide +kernel
theorem dL_law_977 : decode cL_law 977 = .ok (.invokevirtual 101, 3) := by decide +kernel
theorem dL_law_980 : decode cL_law 980 = .ok (.iload 6, 2) := by decide +kernel
theorem dL_law_982 : decode cL_law 982 = .ok (.if_icmp .eq 5, 3) := by decide +kernel
theorem dL_law_985 : decode cL_law 985 = .ok (.iconst 0, 1) := by decide +kernel
theorem dL_law_986 : decode cL_law 986 = .ok (.ireturn, 1) := by decide +kernel
theorem dL_law_987 : decode cL_law 987 = .ok (.iload 6, 2) := by decide +kernel
theorem dL_law_989 : decode cL_law 989 = .ok (.ifCond .ne 15, 3) := by decide +kernel
theorem dL_law_992 : decode cL_law 992 = .ok (.aload_n 3, 1) := by decide +kernel
theorem dL_law_993 : decode cL_law 993 = .ok (.iconst 0, 1) := by decide +kernel
theorem dL_law_994 : decode cL_law 994 = .ok (.laload, 1) := by decide +kernel
theorem dL_law_995 : decode cL_law 995 = .ok (.iload 7, 2) := by decide +kernel
theorem dL_law_997 : decode cL_law 997 = .ok (.i2l, 1) := by decide +kernel
theorem dL_law_998 : decode cL_law 998 = .ok (.lcmp, 1) := by decide +kernel
theorem dL_law_999 : decode cL_law 999 = .ok (.ifCond .eq 5, 3) := by decide +kernel
theorem dL_law_1002 : decode cL_law 1002 = .ok (.iconst 0, 1) := by decide +kernel
theorem dL_law_1003 : decode cL_law 1003 = .ok (.ireturn, 1) := by decide +kernel
theorem dL_law_1004 : decode cL_law 1004 = .ok (.goto 693, 3) := by decide +kernel
theorem dL_law_1007 : decode cL_law 1007 = .ok (.aload_n 1, 1) := by decide +kernel
theorem dL_law_1008 : decode cL_law 1008 = .ok (.invokevirtual 143, 3) := by decide +kernel
theorem dL_law_1011 : decode cL_law 1011 = .ok (.aload_n 2, 1) := by decide +kernel
theorem dL_law_1012 : decode cL_law 1012 = .ok (.invokevirtual 146, 3) := by decide +kernel
theorem dL_law_1015 : decode cL_law 1015 = .ok (.if_icmp .eq 682, 3) := by decide +kernel
theorem dL_law_1018 : decode cL_law 1018 = .ok (.iconst 0, 1) := by decide +kernel
theorem dL_law_1019 : decode cL_law 1019 = .ok (.ireturn, 1) := by decide +kernel
theorem dL_law_1020 : decode cL_law 1020 = .ok (.aload_n 1, 1) := by decide +kernel
theorem dL_law_1021 : decode cL_law 1021 = .ok (.aload_n 0, 1) := by decide +kernel
theorem dL_law_1022 : decode cL_law 1022 = .ok (.iload 5, 2) := by decide +kernel
theorem dL_law_1024 : decode cL_law 1024 = .ok (.iconst 1, 1) := by decide +kernel
theorem dL_law_1025 : decode cL_law 1025 = .ok (.iadd, 1) := by decide +kernel
theorem dL_law_1026 : decode cL_law 1026 = .ok (.iaload, 1) := by decide +kernel
theorem dL_law_1027 : decode cL_law 1027 = .ok (.aload_n 0, 1) := by decide +kernel
theorem dL_law_1028 : decode cL_law 1028 = .ok (.iload 5, 2) := by decide +kernel
theorem dL_law_1030 : decode cL_law 1030 = .ok (.iconst 2, 1) := by decide +kernel
theorem dL_law_1031 : decode cL_law 1031 = .ok (.iadd, 1) := by decide +kernel
theorem dL_law_1032 : decode cL_law 1032 = .ok (.iaload, 1) := by decide +kernel
theorem dL_law_1033 : decode cL_law 1033 = .ok (.aload_n 3, 1) := by decide +kernel
theorem dL_law_1034 : decode cL_law 1034 = .ok (.invokestatic 147, 3) := by decide +kernel
theorem dL_law_1037 : decode cL_law 1037 = .ok (.istore 6, 2) := by decide +kernel
theorem dL_law_1039 : decode cL_law 1039 = .ok (.aload_n 2, 1) := by decide +kernel
theorem dL_law_1040 : decode cL_law 1040 = .ok (.aload_n 0, 1) := by decide +kernel
theorem dL_law_1041 : decode cL_law 1041 = .ok (.iload 5, 2) := by decide +kernel
theorem dL_law_1043 : decode cL_law 1043 = .ok (.iconst 1, 1) := by decide +kernel
theorem dL_law_1044 : decode cL_law 1044 = .ok (.iadd, 1) := by decide +kernel
theorem dL_law_1045 : decode cL_law 1045 = .ok (.iaload, 1) := by decide +kernel
theorem dL_law_1046 : decode cL_law 1046 = .ok (.aload_n 0, 1) := by decide +kernel
theorem dL_law_1047 : decode cL_law 1047 = .ok (.iload 5, 2) := by decide +kernel
theorem dL_law_1049 : decode cL_law 1049 = .ok (.iconst 2, 1) := by decide +kernel
theorem dL_law_1050 : decode cL_law 1050 = .ok (.iadd, 1) := by decide +kernel
theorem dL_law_1051 : decode cL_law 1051 = .ok (.iaload, 1) := by decide +kernel
theorem dL_law_1052 : decode cL_law 1052 = .ok (.invokevirtual 149, 3) := by decide +kernel
theorem dL_law_1055 : decode cL_law 1055 = .ok (.istore 7, 2) := by decide +kernel
theorem dL_law_1057 : decode cL_law 1057 = .ok (.aload_n 2, 1) := by decide +kernel
theorem dL_law_1058 : decode cL_law 1058 = .ok (.invokevirtual 101, 3) := by decide +kernel
theorem dL_law_1061 : decode cL_law 1061 = .ok (.iload 6, 2) := by decide +kernel
theorem dL_law_1063 : decode cL_law 1063 = .ok (.if_icmp .eq 5, 3) := by decide +kernel
theorem dL_law_1066 : decode cL_law 1066 = .ok (.iconst 0, 1) := by decide +kernel
theorem dL_law_1067 : decode cL_law 1067 = .ok (.ireturn, 1) := by decide +kernel
theorem dL_law_1068 : decode cL_law 1068 = .ok (.iload 6, 2) := by decide +kernel
theorem dL_law_1070 : decode cL_law 1070 = .ok (.ifCond .ne 15, 3) := by decide +kernel
theorem dL_law_1073 : decode cL_law 1073 = .ok (.aload_n 3, 1) := by decide +kernel
theorem dL_law_1074 : decode cL_law 1074 = .ok (.iconst 0, 1) := by decide +kernel
theorem dL_law_1075 : decode cL_law 1075 = .ok (.laload, 1) := by decide +kernel
theorem dL_law_1076 : decode cL_law 1076 = .ok (.iload 7, 2) := by decide +kernel
theorem dL_law_1078 : decode cL_law 1078 = .ok (.i2l, 1) := by decide +kernel
theorem dL_law_1079 : decode cL_law 1079 = .ok (.lcmp, 1) := by decide +kernel
theorem dL_law_1080 : decode cL_law 1080 = .ok (.ifCond .eq 5, 3) := by decide +kernel
theorem dL_law_1083 : decode cL_law 1083 = .ok (.iconst 0, 1) := by decide +kernel
theorem dL_law_1084 : decode cL_law 1084 = .ok (.ireturn, 1) := by decide +kernel
theorem dL_law_1085 : decode cL_law 1085 = .ok (.goto 612, 3) := by decide +kernel
theorem dL_law_1088 : decode cL_law 1088 = .ok (.aload_n 1, 1) := by decide +kernel
theorem dL_law_1089 : decode cL_law 1089 = .ok (.aload_n 0, 1) := by decide +kernel
theorem dL_law_1090 : decode cL_law 1090 = .ok (.iload 5, 2) := by decide +kernel
theorem dL_law_1092 : decode cL_law 1092 = .ok (.iconst 1, 1) := by decide +kernel
theorem dL_law_1093 : decode cL_law 1093 = .ok (.iadd, 1) := by decide +kernel
theorem dL_law_1094 : decode cL_law 1094 = .ok (.iaload, 1) := by decide +kernel
theorem dL_law_1095 : decode cL_law 1095 = .ok (.aload_n 3, 1) := by decide +kernel
theorem dL_law_1096 : decode cL_law 1096 = .ok (.invokestatic 150, 3) := by decide +kernel
theorem dL_law_1099 : decode cL_law 1099 = .ok (.istore 6, 2) := by decide +kernel
theorem dL_law_1101 : decode cL_law 1101 = .ok (.aload_n 2, 1) := by decide +kernel
theorem dL_law_1102 : decode cL_law 1102 = .ok (.aload_n 0, 1) := by decide +kernel
theorem dL_law_1103 : decode cL_law 1103 = .ok (.iload 5, 2) := by decide +kernel
theorem dL_law_1105 : decode cL_law 1105 = .ok (.iconst 1, 1) := by decide +kernel
theorem dL_law_1106 : decode cL_law 1106 = .ok (.iadd, 1) := by decide +kernel
theorem dL_law_1107 : decode cL_law 1107 = .ok (.iaload, 1) := by decide +kernel
theorem dL_law_1108 : decode cL_law 1108 = .ok (.invokevirtual 152, 3) := by decide +kernel
theorem dL_law_1111 : decode cL_law 1111 = .ok (.istore 7, 2) := by decide +kernel
theorem dL_law_1113 : decode cL_law 1113 = .ok (.aload_n 2, 1) := by decide +kernel
theorem dL_law_1114 : decode cL_law 1114 = .ok (.invokevirtual 101, 3) := by decide +kernel
theorem dL_law_1117 : decode cL_law 1117 = .ok (.iload 6, 2) := by decide +kernel
theorem dL_law_1119 : decode cL_law 1119 = .ok (.if_icmp .eq 5, 3) := by decide +kernel
theorem dL_law_1122 : decode cL_law 1122 = .ok (.iconst 0, 1) := by decide +kernel
theorem dL_law_1123 : decode cL_law 1123 = .ok (.ireturn, 1) := by decide +kernel
theorem dL_law_1124 : decode cL_law 1124 = .ok (.iload 6, 2) := by decide +kernel
theorem dL_law_1126 : decode cL_law 1126 = .ok (.ifCond .ne 15, 3) := by decide +kernel
theorem dL_law_1129 : decode cL_law 1129 = .ok (.aload_n 3, 1) := by decide +kernel
theorem dL_law_1130 : decode cL_law 1130 = .ok (.iconst 0, 1) := by decide +kernel
theorem dL_law_1131 : decode cL_law 1131 = .ok (.laload, 1) := by decide +kernel
theorem dL_law_1132 : decode cL_law 1132 = .ok (.iload 7, 2) := by decide +kernel
theorem dL_law_1134 : decode cL_law 1134 = .ok (.i2l, 1) := by decide +kernel
theorem dL_law_1135 : decode cL_law 1135 = .ok (.lcmp, 1) := by decide +kernel
theorem dL_law_1136 : decode cL_law 1136 = .ok (.ifCond .eq 5, 3) := by decide +kernel
theorem dL_law_1139 : decode cL_law 1139 = .ok (.iconst 0, 1) := by decide +kernel
theorem dL_law_1140 : decode cL_law 1140 = .ok (.ireturn, 1) := by decide +kernel
theorem dL_law_1141 : decode cL_law 1141 = .ok (.goto 556, 3) := by decide +kernel
theorem dL_law_1144 : decode cL_law 1144 = .ok (.aload_n 1, 1) := by decide +kernel
theorem dL_law_1145 : decode cL_law 1145 = .ok (.aload_n 0, 1) := by decide +kernel
theorem dL_law_1146 : decode cL_law 1146 = .ok (.iload 5, 2) := by decide +kernel
theorem dL_law_1148 : decode cL_law 1148 = .ok (.iconst 1, 1) := by decide +kernel
theorem dL_law_1149 : decode cL_law 1149 = .ok (.iadd, 1) := by decide +kernel
theorem dL_law_1150 : decode cL_law 1150 = .ok (.iaload, 1) := by decide +kernel
theorem dL_law_1151 : decode cL_law 1151 = .ok (.aload_n 0, 1) := by decide +kernel
theorem dL_law_1152 : decode cL_law 1152 = .ok (.iload 5, 2) := by decide +kernel
theorem dL_law_1154 : decode cL_law 1154 = .ok (.iconst 2, 1) := by decide +kernel
theorem dL_law_1155 : decode cL_law 1155 = .ok (.iadd, 1) := by decide +kernel
theorem dL_law_1156 : decode cL_law 1156 = .ok (.iaload, 1) := by decide +kernel
theorem dL_law_1157 : decode cL_law 1157 = .ok (.aload_n 3, 1) := by decide +kernel
theorem dL_law_1158 : decode cL_law 1158 = .ok (.invokestatic 153, 3) := by decide +kernel
theorem dL_law_1161 : decode cL_law 1161 = .ok (.istore 6, 2) := by decide +kernel
theorem dL_law_1163 : decode cL_law 1163 = .ok (.aload_n 2, 1) := by decide +kernel
theorem dL_law_1164 : decode cL_law 1164 = .ok (.aload_n 0, 1) := by decide +kernel
theorem dL_law_1165 : decode cL_law 1165 = .ok (.iload 5, 2) := by decide +kernel
theorem dL_law_1167 : decode cL_law 1167 = .ok (.iconst 1, 1) := by decide +kernel
theorem dL_law_1168 : decode cL_law 1168 = .ok (.iadd, 1) := by decide +kernel
theorem dL_law_1169 : decode cL_law 1169 = .ok (.iaload, 1) := by decide +kernel
theorem dL_law_1170 : decode cL_law 1170 = .ok (.aload_n 0, 1) := by decide +kernel
theorem dL_law_1171 : decode cL_law 1171 = .ok (.iload 5, 2) := by decide +kernel
theorem dL_law_1173 : decode cL_law 1173 = .ok (.iconst 2, 1) := by decide +kernel
theorem dL_law_1174 : decode cL_law 1174 = .ok (.iadd, 1) := by decide +kernel
theorem dL_law_1175 : decode cL_law 1175 = .ok (.iaload, 1) := by decide +kernel
theorem dL_law_1176 : decode cL_law 1176 = .ok (.invokevirtual 155, 3) := by decide +kernel
theorem dL_law_1179 : decode cL_law 1179 = .ok (.istore 7, 2) := by decide +kernel
theorem dL_law_1181 : decode cL_law 1181 = .ok (.aload_n 2, 1) := by decide +kernel
theorem dL_law_1182 : decode cL_law 1182 = .ok (.invokevirtual 101, 3) := by decide +kernel
theorem dL_law_1185 : decode cL_law 1185 = .ok (.iload 6, 2) := by decide +kernel
theorem dL_law_1187 : decode cL_law 1187 = .ok (.if_icmp .eq 5, 3) := by decide +kernel
theorem dL_law_1190 : decode cL_law 1190 = .ok (.iconst 0, 1) := by decide +kernel
theorem dL_law_1191 : decode cL_law 1191 = .ok (.ireturn, 1) := by decide +kernel
theorem dL_law_1192 : decode cL_law 1192 = .ok (.iload 6, 2) := by decide +kernel
theorem dL_law_1194 : decode cL_law 1194 = .ok (.ifCond .ne 15, 3) := by decide +kernel
theorem dL_law_1197 : decode cL_law 1197 = .ok (.aload_n 3, 1) := by decide +kernel
theorem dL_law_1198 : decode cL_law 1198 = .ok (.iconst 0, 1) := by decide +kernel
theorem dL_law_1199 : decode cL_law 1199 = .ok (.laload, 1) := by decide +kernel
theorem dL_law_1200 : decode cL_law 1200 = .ok (.iload 7, 2) := by decide +kernel
theorem dL_law_1202 : decode cL_law 1202 = .ok (.i2l, 1) := by decide +kernel
theorem dL_law_1203 : decode cL_law 1203 = .ok (.lcmp, 1) := by decide +kernel
theorem dL_law_1204 : decode cL_law 1204 = .ok (.ifCond .eq 5, 3) := by decide +kernel
theorem dL_law_1207 : decode cL_law 1207 = .ok (.iconst 0, 1) := by decide +kernel
theorem dL_law_1208 : decode cL_law 1208 = .ok (.ireturn, 1) := by decide +kernel
theorem dL_law_1209 : decode cL_law 1209 = .ok (.goto 488, 3) := by decide +kernel
theorem dL_law_1212 : decode cL_law 1212 = .ok (.aload_n 1, 1) := by decide +kernel
theorem dL_law_1213 : decode cL_law 1213 = .ok (.aload_n 0, 1) := by decide +kernel
theorem dL_law_1214 : decode cL_law 1214 = .ok (.iload 5, 2) := by decide +kernel
theorem dL_law_1216 : decode cL_law 1216 = .ok (.iconst 1, 1) := by decide +kernel
theorem dL_law_1217 : decode cL_law 1217 = .ok (.iadd, 1) := by decide +kernel
theorem dL_law_1218 : decode cL_law 1218 = .ok (.iaload, 1) := by decide +kernel
theorem dL_law_1219 : decode cL_law 1219 = .ok (.aload_n 0, 1) := by decide +kernel
theorem dL_law_1220 : decode cL_law 1220 = .ok (.iload 5, 2) := by decide +kernel
theorem dL_law_1222 : decode cL_law 1222 = .ok (.iconst 2, 1) := by decide +kernel
theorem dL_law_1223 : decode cL_law 1223 = .ok (.iadd, 1) := by decide +kernel
theorem dL_law_1224 : decode cL_law 1224 = .ok (.iaload, 1) := by decide +kernel
theorem dL_law_1225 : decode cL_law 1225 = .ok (.aload_n 3, 1) := by decide +kernel
theorem dL_law_1226 : decode cL_law 1226 = .ok (.invokestatic 156, 3) := by decide +kernel
theorem dL_law_1229 : decode cL_law 1229 = .ok (.istore 6, 2) := by decide +kernel
theorem dL_law_1231 : decode cL_law 1231 = .ok (.aload_n 2, 1) := by decide +kernel
theorem dL_law_1232 : decode cL_law 1232 = .ok (.aload_n 0, 1) := by decide +kernel
theorem dL_law_1233 : decode cL_law 1233 = .ok (.iload 5, 2) := by decide +kernel
theorem dL_law_1235 : decode cL_law 1235 = .ok (.iconst 1, 1) := by decide +kernel
theorem dL_law_1236 : decode cL_law 1236 = .ok (.iadd, 1) := by decide +kernel
theorem dL_law_1237 : decode cL_law 1237 = .ok (.iaload, 1) := by decide +kernel
theorem dL_law_1238 : decode cL_law 1238 = .ok (.aload_n 0, 1) := by decide +kernel
theorem dL_law_1239 : decode cL_law 1239 = .ok (.iload 5, 2) := by decide +kernel
theorem dL_law_1241 : decode cL_law 1241 = .ok (.iconst 2, 1) := by decide +kernel
theorem dL_law_1242 : decode cL_law 1242 = .ok (.iadd, 1) := by decide +kernel
theorem dL_law_1243 : decode cL_law 1243 = .ok (.iaload, 1) := by decide +kernel
theorem dL_law_1244 : decode cL_law 1244 = .ok (.invokevirtual 158, 3) := by decide +kernel
theorem dL_law_1247 : decode cL_law 1247 = .ok (.istore 7, 2) := by decide +kernel
theorem dL_law_1249 : decode cL_law 1249 = .ok (.aload_n 2, 1) := by decide +kernel
theorem dL_law_1250 : decode cL_law 1250 = .ok (.invokevirtual 101, 3) := by decide +kernel
theorem dL_law_1253 : decode cL_law 1253 = .ok (.iload 6, 2) := by decide +kernel
theorem dL_law_1255 : decode cL_law 1255 = .ok (.if_icmp .eq 5, 3) := by decide +kernel
theorem dL_law_1258 : decode cL_law 1258 = .ok (.iconst 0, 1) := by decide +kernel
theorem dL_law_1259 : decode cL_law 1259 = .ok (.ireturn, 1) := by decide +kernel
theorem dL_law_1260 : decode cL_law 1260 = .ok (.iload 6, 2) := by decide +kernel
theorem dL_law_1262 : decode cL_law 1262 = .ok (.ifCond .ne 15, 3) := by decide +kernel
theorem dL_law_1265 : decode cL_law 1265 = .ok (.aload_n 3, 1) := by decide +kernel
theorem dL_law_1266 : decode cL_law 1266 = .ok (.iconst 0, 1) := by decide +kernel
theorem dL_law_1267 : decode cL_law 1267 = .ok (.laload, 1) := by decide +kernel
theorem dL_law_1268 : decode cL_law 1268 = .ok (.iload 7, 2) := by decide +kernel
theorem dL_law_1270 : decode cL_law 1270 = .ok (.i2l, 1) := by decide +kernel
theorem dL_law_1271 : decode cL_law 1271 = .ok (.lcmp, 1) := by decide +kernel
theorem dL_law_1272 : decode cL_law 1272 = .ok (.ifCond .eq 5, 3) := by decide +kernel
theorem dL_law_1275 : decode cL_law 1275 = .ok (.iconst 0, 1) := by decide +kernel
theorem dL_law_1276 : decode cL_law 1276 = .ok (.ireturn, 1) := by decide +kernel
theorem dL_law_1277 : decode cL_law 1277 = .ok (.goto 420, 3) := by decide +kernel
theorem dL_law_1280 : decode cL_law 1280 = .ok (.aload_n 1, 1) := by decide +kernel
theorem dL_law_1281 : decode cL_law 1281 = .ok (.aload_n 0, 1) := by decide +kernel
theorem dL_law_1282 : decode cL_law 1282 = .ok (.iload 5, 2) := by decide +kernel
theorem dL_law_1284 : decode cL_law 1284 = .ok (.iconst 1, 1) := by decide +kernel
theorem dL_law_1285 : decode cL_law 1285 = .ok (.iadd, 1) := by decide +kernel
theorem dL_law_1286 : decode cL_law 1286 = .ok (.iaload, 1) := by decide +kernel
theorem dL_law_1287 : decode cL_law 1287 = .ok (.aload 4, 2) := by decide +kernel
theorem dL_law_1289 : decode cL_law 1289 = .ok (.invokestatic 159, 3) := by decide +kernel
theorem dL_law_1292 : decode cL_law 1292 = .ok (.istore 6, 2) := by decide +kernel
theorem dL_law_1294 : decode cL_law 1294 = .ok (.aload_n 2, 1) := by decide +kernel
theorem dL_law_1295 : decode cL_law 1295 = .ok (.aload_n 0, 1) := by decide +kernel
theorem dL_law_1296 : decode cL_law 1296 = .ok (.iload 5, 2) := by decide +kernel
theorem dL_law_1298 : decode cL_law 1298 = .ok (.iconst 1, 1) := by decide +kernel
theorem dL_law_1299 : decode cL_law 1299 = .ok (.iadd, 1) := by decide +kernel
theorem dL_law_1300 : decode cL_law 1300 = .ok (.iaload, 1) := by decide +kernel
theorem dL_law_1301 : decode cL_law 1301 = .ok (.invokevirtual 162, 3) := by decide +kernel
theorem dL_law_1304 : decode cL_law 1304 = .ok (.fstore 7, 2) := by decide +kernel
theorem dL_law_1306 : decode cL_law 1306 = .ok (.aload_n 2, 1) := by decide +kernel
theorem dL_law_1307 : decode cL_law 1307 = .ok (.invokevirtual 101, 3) := by decide +kernel
theorem dL_law_1310 : decode cL_law 1310 = .ok (.iload 6, 2) := by decide +kernel
theorem dL_law_1312 : decode cL_law 1312 = .ok (.if_icmp .eq 5, 3) := by decide +kernel
theorem dL_law_1315 : decode cL_law 1315 = .ok (.iconst 0, 1) := by decide +kernel
theorem dL_law_1316 : decode cL_law 1316 = .ok (.ireturn, 1) := by decide +kernel
theorem dL_law_1317 : decode cL_law 1317 = .ok (.iload 6, 2) := by decide +kernel
theorem dL_law_1319 : decode cL_law 1319 = .ok (.ifCond .ne 36, 3) := by decide +kernel
theorem dL_law_1322 : decode cL_law 1322 = .ok (.aload 4, 2) := by decide +kernel
theorem dL_law_1324 : decode cL_law 1324 = .ok (.iconst 0, 1) := by decide +kernel
theorem dL_law_1325 : decode cL_law 1325 = .ok (.daload, 1) := by decide +kernel
theorem dL_law_1326 : decode cL_law 1326 = .ok (.fload 7, 2) := by decide +kernel
theorem dL_law_1328 : decode cL_law 1328 = .ok (.f2d, 1) := by decide +kernel
theorem dL_law_1329 : decode cL_law 1329 = .ok (.dcmp .l, 1) := by decide +kernel
theorem dL_law_1330 : decode cL_law 1330 = .ok (.ifCond .eq 25, 3) := by decide +kernel
theorem dL_law_1333 : decode cL_law 1333 = .ok (.aload 4, 2) := by decide +kernel
theorem dL_law_1335 : decode cL_law 1335 = .ok (.iconst 0, 1) := by decide +kernel
theorem dL_law_1336 : decode cL_law 1336 = .ok (.daload, 1) := by decide +kernel
theorem dL_law_1337 : decode cL_law 1337 = .ok (.aload 4, 2) := by decide +kernel
theorem dL_law_1339 : decode cL_law 1339 = .ok (.iconst 0, 1) := by decide +kernel
theorem dL_law_1340 : decode cL_law 1340 = .ok (.daload, 1) := by decide +kernel
theorem dL_law_1341 : decode cL_law 1341 = .ok (.dcmp .l, 1) := by decide +kernel
theorem dL_law_1342 : decode cL_law 1342 = .ok (.ifCond .eq 11, 3) := by decide +kernel
theorem dL_law_1345 : decode cL_law 1345 = .ok (.fload 7, 2) := by decide +kernel
theorem dL_law_1347 : decode cL_law 1347 = .ok (.fload 7, 2) := by decide +kernel
theorem dL_law_1349 : decode cL_law 1349 = .ok (.fcmp .l, 1) := by decide +kernel
theorem dL_law_1350 : decode cL_law 1350 = .ok (.ifCond .ne 5, 3) := by decide +kernel
theorem dL_law_1353 : decode cL_law 1353 = .ok (.iconst 0, 1) := by decide +kernel
theorem dL_law_1354 : decode cL_law 1354 = .ok (.ireturn, 1) := by decide +kernel
theorem dL_law_1355 : decode cL_law 1355 = .ok (.goto 342, 3) := by decide +kernel
theorem dL_law_1358 : decode cL_law 1358 = .ok (.aload_n 1, 1) := by decide +kernel
theorem dL_law_1359 : decode cL_law 1359 = .ok (.aload_n 0, 1) := by decide +kernel
theorem dL_law_1360 : decode cL_law 1360 = .ok (.iload 5, 2) := by decide +kernel
theorem dL_law_1362 : decode cL_law 1362 = .ok (.iconst 1, 1) := by decide +kernel
theorem dL_law_1363 : decode cL_law 1363 = .ok (.iadd, 1) := by decide +kernel
theorem dL_law_1364 : decode cL_law 1364 = .ok (.iaload, 1) := by decide +kernel
theorem dL_law_1365 : decode cL_law 1365 = .ok (.aload_n 3, 1) := by decide +kernel
theorem dL_law_1366 : decode cL_law 1366 = .ok (.invokestatic 163, 3) := by decide +kernel
theorem dL_law_1369 : decode cL_law 1369 = .ok (.istore 6, 2) := by decide +kernel
theorem dL_law_1371 : decode cL_law 1371 = .ok (.aload_n 2, 1) := by decide +kernel
theorem dL_law_1372 : decode cL_law 1372 = .ok (.aload_n 0, 1) := by decide +kernel
theorem dL_law_1373 : decode cL_law 1373 = .ok (.iload 5, 2) := by decide +kernel
theorem dL_law_1375 : decode cL_law 1375 = .ok (.iconst 1, 1) := by decide +kernel
theorem dL_law_1376 : decode cL_law 1376 = .ok (.iadd, 1) := by decide +kernel
theorem dL_law_1377 : decode cL_law 1377 = .ok (.iaload, 1) := by decide +kernel
theorem dL_law_1378 : decode cL_law 1378 = .ok (.invokevirtual 165, 3) := by decide +kernel
theorem dL_law_1381 : decode cL_law 1381 = .ok (.istore 7, 2) := by decide +kernel
theorem dL_law_1383 : decode cL_law 1383 = .ok (.aload_n 2, 1) := by decide +kernel
theorem dL_law_1384 : decode cL_law 1384 = .ok (.invokevirtual 101, 3) := by decide +kernel
theorem dL_law_1387 : decode cL_law 1387 = .ok (.iload 6, 2) := by decide +kernel
theorem dL_law_1389 : decode cL_law 1389 = .ok (.if_icmp .eq 5, 3) := by decide +kernel
theorem dL_law_1392 : decode cL_law 1392 = .ok (.iconst 0, 1) := by decide +kernel
theorem dL_law_1393 : decode cL_law 1393 = .ok (.ireturn, 1) := by decide +kernel
theorem dL_law_1394 : decode cL_law 1394 = .ok (.iload 6, 2) := by decide +kernel
theorem dL_law_1396 : decode cL_law 1396 = .ok (.ifCond .ne 15, 3) := by decide +kernel
theorem dL_law_1399 : decode cL_law 1399 = .ok (.aload_n 3, 1) := by decide +kernel
theorem dL_law_1400 : decode cL_law 1400 = .ok (.iconst 0, 1) := by decide +kernel
theorem dL_law_1401 : decode cL_law 1401 = .ok (.laload, 1) := by decide +kernel
theorem dL_law_1402 : decode cL_law 1402 = .ok (.iload 7, 2) := by decide +kernel
theorem dL_law_1404 : decode cL_law 1404 = .ok (.i2l, 1) := by decide +kernel
theorem dL_law_1405 : decode cL_law 1405 = .ok (.lcmp, 1) := by decide +kernel
theorem dL_law_1406 : decode cL_law 1406 = .ok (.ifCond .eq 5, 3) := by decide +kernel
theorem dL_law_1409 : decode cL_law 1409 = .ok (.iconst 0, 1) := by decide +kernel
theorem dL_law_1410 : decode cL_law 1410 = .ok (.ireturn, 1) := by decide +kernel
theorem dL_law_1411 : decode cL_law 1411 = .ok (.goto 286, 3) := by decide +kernel
theorem dL_law_1414 : decode cL_law 1414 = .ok (.aload_n 1, 1) := by decide +kernel
theorem dL_law_1415 : decode cL_law 1415 = .ok (.aload_n 0, 1) := by decide +kernel
theorem dL_law_1416 : decode cL_law 1416 = .ok (.iload 5, 2) := by decide +kernel
theorem dL_law_1418 : decode cL_law 1418 = .ok (.iconst 1, 1) := by decide +kernel
theorem dL_law_1419 : decode cL_law 1419 = .ok (.iadd, 1) := by decide +kernel
theorem dL_law_1420 : decode cL_law 1420 = .ok (.iaload, 1) := by decide +kernel
theorem dL_law_1421 : decode cL_law 1421 = .ok (.aload_n 0, 1) := by decide +kernel
theorem dL_law_1422 : decode cL_law 1422 = .ok (.iload 5, 2) := by decide +kernel
theorem dL_law_1424 : decode cL_law 1424 = .ok (.iconst 2, 1) := by decide +kernel
theorem dL_law_1425 : decode cL_law 1425 = .ok (.iadd, 1) := by decide +kernel
theorem dL_law_1426 : decode cL_law 1426 = .ok (.iaload, 1) := by decide +kernel
theorem dL_law_1427 : decode cL_law 1427 = .ok (.aload_n 0, 1) := by decide +kernel
theorem dL_law_1428 : decode cL_law 1428 = .ok (.iload 5, 2) := by decide +kernel
theorem dL_law_1430 : decode cL_law 1430 = .ok (.iconst 3, 1) := by decide +kernel
theorem dL_law_1431 : decode cL_law 1431 = .ok (.iadd, 1) := by decide +kernel
theorem dL_law_1432 : decode cL_law 1432 = .ok (.iaload, 1) := by decide +kernel
theorem dL_law_1433 : decode cL_law 1433 = .ok (.aload_n 3, 1) := by decide +kernel
theorem dL_law_1434 : decode cL_law 1434 = .ok (.invokestatic 166, 3) := by decide +kernel
theorem dL_law_1437 : decode cL_law 1437 = .ok (.istore 6, 2) := by decide +kernel
theorem dL_law_1439 : decode cL_law 1439 = .ok (.aload_n 2, 1) := by decide +kernel
theorem dL_law_1440 : decode cL_law 1440 = .ok (.aload_n 0, 1) := by decide +kernel
theorem dL_law_1441 : decode cL_law 1441 = .ok (.iload 5, 2) := by decide +kernel
theorem dL_law_1443 : decode cL_law 1443 = .ok (.iconst 1, 1) := by decide +kernel
theorem dL_law_1444 : decode cL_law 1444 = .ok (.iadd, 1) := by decide +kernel
theorem dL_law_1445 : decode cL_law 1445 = .ok (.iaload, 1) := by decide +kernel
theorem dL_law_1446 : decode cL_law 1446 = .ok (.aload_n 0, 1) := by decide +kernel
theorem dL_law_1447 : decode cL_law 1447 = .ok (.iload 5, 2) := by decide +kernel
theorem dL_law_1449 : decode cL_law 1449 = .ok (.iconst 2, 1) := by decide +kernel
theorem dL_law_1450 : decode cL_law 1450 = .ok (.iadd, 1) := by decide +kernel
theorem dL_law_1451 : decode cL_law 1451 = .ok (.iaload, 1) := by decide +kernel
theorem dL_law_1452 : decode cL_law 1452 = .ok (.aload_n 0, 1) := by decide +kernel
theorem dL_law_1453 : decode cL_law 1453 = .ok (.iload 5, 2) := by decide +kernel
theorem dL_law_1455 : decode cL_law 1455 = .ok (.iconst 3, 1) := by decide +kernel
theorem dL_law_1456 : decode cL_law 1456 = .ok (.iadd, 1) := by decide +kernel
theorem dL_law_1457 : decode cL_law 1457 = .ok (.iaload, 1) := by decide +kernel
theorem dL_law_1458 : decode cL_law 1458 = .ok (.invokevirtual 169, 3) := by decide +kernel
theorem dL_law_1461 : decode cL_law 1461 = .ok (.istore 7, 2) := by decide +kernel
theorem dL_law_1463 : decode cL_law 1463 = .ok (.aload_n 2, 1) := by decide +kernel
theorem dL_law_1464 : decode cL_law 1464 = .ok (.invokevirtual 101, 3) := by decide +kernel
theorem dL_law_1467 : decode cL_law 1467 = .ok (.iload 6, 2) := by decide +kernel
theorem dL_law_1469 : decode cL_law 1469 = .ok (.if_icmp .eq 5, 3) := by decide +kernel
theorem dL_law_1472 : decode cL_law 1472 = .ok (.iconst 0, 1) := by decide +kernel
theorem dL_law_1473 : decode cL_law 1473 = .ok (.ireturn, 1) := by decide +kernel
theorem dL_law_1474 : decode cL_law 1474 = .ok (.iload 6, 2) := by decide +kernel
theorem dL_law_1476 : decode cL_law 1476 = .ok (.ifCond .ne 15, 3) := by decide +kernel
theorem dL_law_1479 : decode cL_law 1479 = .ok (.aload_n 3, 1) := by decide +kernel
theorem dL_law_1480 : decode cL_law 1480 = .ok (.iconst 0, 1) := by decide +kernel
theorem dL_law_1481 : decode cL_law 1481 = .ok (.laload, 1) := by decide +kernel
theorem dL_law_1482 : decode cL_law 1482 = .ok (.iload 7, 2) := by decide +kernel
theorem dL_law_1484 : decode cL_law 1484 = .ok (.i2l, 1) := by decide +kernel
theorem dL_law_1485 : decode cL_law 1485 = .ok (.lcmp, 1) := by decide +kernel
theorem dL_law_1486 : decode cL_law 1486 = .ok (.ifCond .eq 5, 3) := by decide +kernel
theorem dL_law_1489 : decode cL_law 1489 = .ok (.iconst 0, 1) := by decide +kernel
theorem dL_law_1490 : decode cL_law 1490 = .ok (.ireturn, 1) := by decide +kernel
theorem dL_law_1491 : decode cL_law 1491 = .ok (.goto 206, 3) := by decide +kernel
theorem dL_law_1494 : decode cL_law 1494 = .ok (.aload_n 1, 1) := by decide +kernel
theorem dL_law_1495 : decode cL_law 1495 = .ok (.aload_n 0, 1) := by decide +kernel
theorem dL_law_1496 : decode cL_law 1496 = .ok (.iload 5, 2) := by decide +kernel
theorem dL_law_1498 : decode cL_law 1498 = .ok (.iconst 1, 1) := by decide +kernel
theorem dL_law_1499 : decode cL_law 1499 = .ok (.iadd, 1) := by decide +kernel
theorem dL_law_1500 : decode cL_law 1500 = .ok (.iaload, 1) := by decide +kernel
theorem dL_law_1501 : decode cL_law 1501 = .ok (.aload_n 0, 1) := by decide +kernel
theorem dL_law_1502 : decode cL_law 1502 = .ok (.iload 5, 2) := by decide +kernel
theorem dL_law_1504 : decode cL_law 1504 = .ok (.iconst 2, 1) := by decide +kernel
theorem dL_law_1505 : decode cL_law 1505 = .ok (.iadd, 1) := by decide +kernel
theorem dL_law_1506 : decode cL_law 1506 = .ok (.iaload, 1) := by decide +kernel
theorem dL_law_1507 : decode cL_law 1507 = .ok (.aload_n 0, 1) := by decide +kernel
theorem dL_law_1508 : decode cL_law 1508 = .ok (.iload 5, 2) := by decide +kernel
theorem dL_law_1510 : decode cL_law 1510 = .ok (.iconst 3, 1) := by decide +kernel
theorem dL_law_1511 : decode cL_law 1511 = .ok (.iadd, 1) := by decide +kernel
theorem dL_law_1512 : decode cL_law 1512 = .ok (.iaload, 1) := by decide +kernel
theorem dL_law_1513 : decode cL_law 1513 = .ok (.aload_n 3, 1) := by decide +kernel
theorem dL_law_1514 : decode cL_law 1514 = .ok (.invokestatic 170, 3) := by decide +kernel
theorem dL_law_1517 : decode cL_law 1517 = .ok (.istore 6, 2) := by decide +kernel
theorem dL_law_1519 : decode cL_law 1519 = .ok (.aload_n 2, 1) := by decide +kernel
theorem dL_law_1520 : decode cL_law 1520 = .ok (.aload_n 0, 1) := by decide +kernel
theorem dL_law_1521 : decode cL_law 1521 = .ok (.iload 5, 2) := by decide +kernel
theorem dL_law_1523 : decode cL_law 1523 = .ok (.iconst 1, 1) := by decide +kernel
theorem dL_law_1524 : decode cL_law 1524 = .ok (.iadd, 1) := by decide +kernel
theorem dL_law_1525 : decode cL_law 1525 = .ok (.iaload, 1) := by decide +kernel
theorem dL_law_1526 : decode cL_law 1526 = .ok (.aload_n 0, 1) := by decide +kernel
theorem dL_law_1527 : decode cL_law 1527 = .ok (.iload 5, 2) := by decide +kernel
theorem dL_law_1529 : decode cL_law 1529 = .ok (.iconst 2, 1) := by decide +kernel
theorem dL_law_1530 : decode cL_law 1530 = .ok (.iadd, 1) := by decide +kernel
theorem dL_law_1531 : decode cL_law 1531 = .ok (.iaload, 1) := by decide +kernel
theorem dL_law_1532 : decode cL_law 1532 = .ok (.aload_n 0, 1) := by decide +kernel
theorem dL_law_1533 : decode cL_law 1533 = .ok (.iload 5, 2) := by decide +kernel
theorem dL_law_1535 : decode cL_law 1535 = .ok (.iconst 3, 1) := by decide +kernel
theorem dL_law_1536 : decode cL_law 1536 = .ok (.iadd, 1) := by decide +kernel
theorem dL_law_1537 : decode cL_law 1537 = .ok (.iaload, 1) := by decide +kernel
theorem dL_law_1538 : decode cL_law 1538 = .ok (.invokevirtual 172, 3) := by decide +kernel
theorem dL_law_1541 : decode cL_law 1541 = .ok (.istore 7, 2) := by decide +kernel
theorem dL_law_1543 : decode cL_law 1543 = .ok (.aload_n 2, 1) := by decide +kernel
theorem dL_law_1544 : decode cL_law 1544 = .ok (.invokevirtual 101, 3) := by decide +kernel
theorem dL_law_1547 : decode cL_law 1547 = .ok (.iload 6, 2) := by decide +kernel
theorem dL_law_1549 : decode cL_law 1549 = .ok (.if_icmp .eq 5, 3) := by decide +kernel
theorem dL_law_1552 : decode cL_law 1552 = .ok (.iconst 0, 1) := by decide +kernel
theorem dL_law_1553 : decode cL_law 1553 = .ok (.ireturn, 1) := by decide +kernel
theorem dL_law_1554 : decode cL_law 1554 = .ok (.iload 6, 2) := by decide +kernel
theorem dL_law_1556 : decode cL_law 1556 = .ok (.ifCond .ne 15, 3) := by decide +kernel
theorem dL_law_1559 : decode cL_law 1559 = .ok (.aload_n 3, 1) := by decide +kernel
theorem dL_law_1560 : decode cL_law 1560 = .ok (.iconst 0, 1) := by decide +kernel
theorem dL_law_1561 : decode cL_law 1561 = .ok (.laload, 1) := by decide +kernel
theorem dL_law_1562 : decode cL_law 1562 = .ok (.iload 7, 2) := by decide +kernel
theorem dL_law_1564 : decode cL_law 1564 = .ok (.i2l, 1) := by decide +kernel
theorem dL_law_1565 : decode cL_law 1565 = .ok (.lcmp, 1) := by decide +kernel
theorem dL_law_1566 : decode cL_law 1566 = .ok (.ifCond .eq 5, 3) := by decide +kernel
theorem dL_law_1569 : decode cL_law 1569 = .ok (.iconst 0, 1) := by decide +kernel
theorem dL_law_1570 : decode cL_law 1570 = .ok (.ireturn, 1) := by decide +kernel
theorem dL_law_1571 : decode cL_law 1571 = .ok (.goto 126, 3) := by decide +kernel
theorem dL_law_1574 : decode cL_law 1574 = .ok (.aload_n 1, 1) := by decide +kernel
theorem dL_law_1575 : decode cL_law 1575 = .ok (.aload_n 0, 1) := by decide +kernel
theorem dL_law_1576 : decode cL_law 1576 = .ok (.iload 5, 2) := by decide +kernel
theorem dL_law_1578 : decode cL_law 1578 = .ok (.iconst 1, 1) := by decide +kernel
theorem dL_law_1579 : decode cL_law 1579 = .ok (.iadd, 1) := by decide +kernel
theorem dL_law_1580 : decode cL_law 1580 = .ok (.iaload, 1) := by decide +kernel
theorem dL_law_1581 : decode cL_law 1581 = .ok (.aload_n 0, 1) := by decide +kernel
theorem dL_law_1582 : decode cL_law 1582 = .ok (.iload 5, 2) := by decide +kernel
theorem dL_law_1584 : decode cL_law 1584 = .ok (.iconst 2, 1) := by decide +kernel
theorem dL_law_1585 : decode cL_law 1585 = .ok (.iadd, 1) := by decide +kernel
theorem dL_law_1586 : decode cL_law 1586 = .ok (.iaload, 1) := by decide +kernel
theorem dL_law_1587 : decode cL_law 1587 = .ok (.aload_n 3, 1) := by decide +kernel
theorem dL_law_1588 : decode cL_law 1588 = .ok (.invokestatic 173, 3) := by decide +kernel
theorem dL_law_1591 : decode cL_law 1591 = .ok (.istore 6, 2) := by decide +kernel
theorem dL_law_1593 : decode cL_law 1593 = .ok (.aload_n 2, 1) := by decide +kernel
theorem dL_law_1594 : decode cL_law 1594 = .ok (.aload_n 0, 1) := by decide +kernel
theorem dL_law_1595 : decode cL_law 1595 = .ok (.iload 5, 2) := by decide +kernel
theorem dL_law_1597 : decode cL_law 1597 = .ok (.iconst 1, 1) := by decide +kernel
theorem dL_law_1598 : decode cL_law 1598 = .ok (.iadd, 1) := by decide +kernel
theorem dL_law_1599 : decode cL_law 1599 = .ok (.iaload, 1) := by decide +kernel
theorem dL_law_1600 : decode cL_law 1600 = .ok (.aload_n 0, 1) := by decide +kernel
theorem dL_law_1601 : decode cL_law 1601 = .ok (.iload 5, 2) := by decide +kernel
theorem dL_law_1603 : decode cL_law 1603 = .ok (.iconst 2, 1) := by decide +kernel
theorem dL_law_1604 : decode cL_law 1604 = .ok (.iadd, 1) := by decide +kernel
theorem dL_law_1605 : decode cL_law 1605 = .ok (.iaload, 1) := by decide +kernel
theorem dL_law_1606 : decode cL_law 1606 = .ok (.invokevirtual 175, 3) := by decide +kernel
theorem dL_law_1609 : decode cL_law 1609 = .ok (.istore 7, 2) := by decide +kernel
theorem dL_law_1611 : decode cL_law 1611 = .ok (.aload_n 2, 1) := by decide +kernel
theorem dL_law_1612 : decode cL_law 1612 = .ok (.invokevirtual 101, 3) := by decide +kernel
theorem dL_law_1615 : decode cL_law 1615 = .ok (.iload 6, 2) := by decide +kernel
theorem dL_law_1617 : decode cL_law 1617 = .ok (.if_icmp .eq 5, 3) := by decide +kernel
theorem dL_law_1620 : decode cL_law 1620 = .ok (.iconst 0, 1) := by decide +kernel
theorem dL_law_1621 : decode cL_law 1621 = .ok (.ireturn, 1) := by decide +kernel
theorem dL_law_1622 : decode cL_law 1622 = .ok (.iload 6, 2) := by decide +kernel
theorem dL_law_1624 : decode cL_law 1624 = .ok (.ifCond .ne 15, 3) := by decide +kernel
theorem dL_law_1627 : decode cL_law 1627 = .ok (.aload_n 3, 1) := by decide +kernel
theorem dL_law_1628 : decode cL_law 1628 = .ok (.iconst 0, 1) := by decide +kernel
theorem dL_law_1629 : decode cL_law 1629 = .ok (.laload, 1) := by decide +kernel
theorem dL_law_1630 : decode cL_law 1630 = .ok (.iload 7, 2) := by decide +kernel
theorem dL_law_1632 : decode cL_law 1632 = .ok (.i2l, 1) := by decide +kernel
theorem dL_law_1633 : decode cL_law 1633 = .ok (.lcmp, 1) := by decide +kernel
theorem dL_law_1634 : decode cL_law 1634 = .ok (.ifCond .eq 5, 3) := by decide +kernel
theorem dL_law_1637 : decode cL_law 1637 = .ok (.iconst 0, 1) := by decide +kernel
theorem dL_law_1638 : decode cL_law 1638 = .ok (.ireturn, 1) := by decide +kernel
theorem dL_law_1639 : decode cL_law 1639 = .ok (.goto 58, 3) := by decide +kernel
theorem dL_law_1642 : decode cL_law 1642 = .ok (.aload_n 1, 1) := by decide +kernel
theorem dL_law_1643 : decode cL_law 1643 = .ok (.aload_n 0, 1) := by decide +kernel
theorem dL_law_1644 : decode cL_law 1644 = .ok (.iload 5, 2) := by decide +kernel
theorem dL_law_1646 : decode cL_law 1646 = .ok (.iconst 1, 1) := by decide +kernel
theorem dL_law_1647 : decode cL_law 1647 = .ok (.iadd, 1) := by decide +kernel
theorem dL_law_1648 : decode cL_law 1648 = .ok (.iaload, 1) := by decide +kernel
theorem dL_law_1649 : decode cL_law 1649 = .ok (.aload_n 3, 1) := by decide +kernel
theorem dL_law_1650 : decode cL_law 1650 = .ok (.invokestatic 176, 3) := by decide +kernel
theorem dL_law_1653 : decode cL_law 1653 = .ok (.istore 6, 2) := by decide +kernel
theorem dL_law_1655 : decode cL_law 1655 = .ok (.aload_n 2, 1) := by decide +kernel
theorem dL_law_1656 : decode cL_law 1656 = .ok (.aload_n 0, 1) := by decide +kernel
theorem dL_law_1657 : decode cL_law 1657 = .ok (.iload 5, 2) := by decide +kernel
theorem dL_law_1659 : decode cL_law 1659 = .ok (.iconst 1, 1) := by decide +kernel
theorem dL_law_1660 : decode cL_law 1660 = .ok (.iadd, 1) := by decide +kernel
theorem dL_law_1661 : decode cL_law 1661 = .ok (.iaload, 1) := by decide +kernel
theorem dL_law_1662 : decode cL_law 1662 = .ok (.invokevirtual 178, 3) := by decide +kernel
theorem dL_law_1665 : decode cL_law 1665 = .ok (.lstore 7, 2) := by decide +kernel
theorem dL_law_1667 : decode cL_law 1667 = .ok (.aload_n 2, 1) := by decide +kernel
theorem dL_law_1668 : decode cL_law 1668 = .ok (.invokevirtual 101, 3) := by decide +kernel
theorem dL_law_1671 : decode cL_law 1671 = .ok (.iload 6, 2) := by decide +kernel
theorem dL_law_1673 : decode cL_law 1673 = .ok (.if_icmp .eq 5, 3) := by decide +kernel
theorem dL_law_1676 : decode cL_law 1676 = .ok (.iconst 0, 1) := by decide +kernel
theorem dL_law_1677 : decode cL_law 1677 = .ok (.ireturn, 1) := by decide +kernel
theorem dL_law_1678 : decode cL_law 1678 = .ok (.iload 6, 2) := by decide +kernel
theorem dL_law_1680 : decode cL_law 1680 = .ok (.ifCond .ne 14, 3) := by decide +kernel
theorem dL_law_1683 : decode cL_law 1683 = .ok (.aload_n 3, 1) := by decide +kernel
theorem dL_law_1684 : decode cL_law 1684 = .ok (.iconst 0, 1) := by decide +kernel
theorem dL_law_1685 : decode cL_law 1685 = .ok (.laload, 1) := by decide +kernel
theorem dL_law_1686 : decode cL_law 1686 = .ok (.lload 7, 2) := by decide +kernel
theorem dL_law_1688 : decode cL_law 1688 = .ok (.lcmp, 1) := by decide +kernel
theorem dL_law_1689 : decode cL_law 1689 = .ok (.ifCond .eq 5, 3) := by decide +kernel
theorem dL_law_1692 : decode cL_law 1692 = .ok (.iconst 0, 1) := by decide +kernel
theorem dL_law_1693 : decode cL_law 1693 = .ok (.ireturn, 1) := by decide +kernel
theorem dL_law_1694 : decode cL_law 1694 = .ok (.goto 3, 3) := by decide +kernel
theorem dL_law_1697 : decode cL_law 1697 = .ok (.iinc 5 4, 3) := by decide +kernel
theorem dL_law_1700 : decode cL_law 1700 = .ok (.goto (-1672), 3) := by decide +kernel
theorem dL_law_1703 : decode cL_law 1703 = .ok (.iconst 1, 1) := by decide +kernel
theorem dL_law_1704 : decode cL_law 1704 = .ok (.ireturn, 1) := by decide +kernel
