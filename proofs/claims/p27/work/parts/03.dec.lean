theorem dX0_init_0 : decode cX0_init 0 = .ok (.aload_n 0, 1) := by decide +kernel
theorem dX0_init_1 : decode cX0_init 1 = .ok (.invokespecial 3, 3) := by decide +kernel
theorem dX0_init_4 : decode cX0_init 4 = .ok (.aload_n 0, 1) := by decide +kernel
theorem dX0_init_5 : decode cX0_init 5 = .ok (.new 9, 3) := by decide +kernel
theorem dX0_init_8 : decode cX0_init 8 = .ok (.dup, 1) := by decide +kernel
theorem dX0_init_9 : decode cX0_init 9 = .ok (.invokespecial 11, 3) := by decide +kernel
theorem dX0_init_12 : decode cX0_init 12 = .ok (.putfield 12, 3) := by decide +kernel
theorem dX0_init_15 : decode cX0_init 15 = .ok (.aload_n 0, 1) := by decide +kernel
theorem dX0_init_16 : decode cX0_init 16 = .ok (.iconst 5, 1) := by decide +kernel
theorem dX0_init_17 : decode cX0_init 17 = .ok (.putfield 18, 3) := by decide +kernel
theorem dX0_init_20 : decode cX0_init 20 = .ok (.aload_n 0, 1) := by decide +kernel
theorem dX0_init_21 : decode cX0_init 21 = .ok (.iconst 0, 1) := by decide +kernel
theorem dX0_init_22 : decode cX0_init 22 = .ok (.putfield 22, 3) := by decide +kernel
theorem dX0_init_25 : decode cX0_init 25 = .ok (.aload_n 0, 1) := by decide +kernel
theorem dX0_init_26 : decode cX0_init 26 = .ok (.iload_n 1, 1) := by decide +kernel
theorem dX0_init_27 : decode cX0_init 27 = .ok (.putfield 25, 3) := by decide +kernel
theorem dX0_init_30 : decode cX0_init 30 = .ok (.aload_n 0, 1) := by decide +kernel
theorem dX0_init_31 : decode cX0_init 31 = .ok (.aload_n 2, 1) := by decide +kernel
theorem dX0_init_32 : decode cX0_init 32 = .ok (.putfield 28, 3) := by decide +kernel
theorem dX0_init_35 : decode cX0_init 35 = .ok (.return_, 1) := by decide +kernel
theorem dX0_leadsTo_0 : decode cX0_leadsTo 0 = .ok (.aload_n 0, 1) := by decide +kernel
theorem dX0_leadsTo_1 : decode cX0_leadsTo 1 = .ok (.getfield 28, 3) := by decide +kernel
theorem dX0_leadsTo_4 : decode cX0_leadsTo 4 = .ok (.ifnonnull 7, 3) := by decide +kernel
theorem dX0_leadsTo_7 : decode cX0_leadsTo 7 = .ok (.iconst (-1), 1) := by decide +kernel
theorem dX0_leadsTo_8 : decode cX0_leadsTo 8 = .ok (.goto 10, 3) := by decide +kernel
theorem dX0_leadsTo_11 : decode cX0_leadsTo 11 = .ok (.aload_n 0, 1) := by decide +kernel
theorem dX0_leadsTo_12 : decode cX0_leadsTo 12 = .ok (.getfield 28, 3) := by decide +kernel
theorem dX0_leadsTo_15 : decode cX0_leadsTo 15 = .ok (.getfield 25, 3) := by decide +kernel
theorem dX0_leadsTo_18 : decode cX0_leadsTo 18 = .ok (.ireturn, 1) := by decide +kernel
theorem dX0_travel_0 : decode cX0_travel 0 = .ok (.iconst 0, 1) := by decide +kernel
theorem dX0_travel_1 : decode cX0_travel 1 = .ok (.istore_n 1, 1) := by decide +kernel
theorem dX0_travel_2 : decode cX0_travel 2 = .ok (.aload_n 0, 1) := by decide +kernel
theorem dX0_travel_3 : decode cX0_travel 3 = .ok (.astore_n 2, 1) := by decide +kernel
theorem dX0_travel_4 : decode cX0_travel 4 = .ok (.aload_n 2, 1) := by decide +kernel
theorem dX0_travel_5 : decode cX0_travel 5 = .ok (.ifnull 18, 3) := by decide +kernel
theorem dX0_travel_8 : decode cX0_travel 8 = .ok (.iload_n 1, 1) := by decide +kernel
theorem dX0_travel_9 : decode cX0_travel 9 = .ok (.aload_n 2, 1) := by decide +kernel
theorem dX0_travel_10 : decode cX0_travel 10 = .ok (.getfield 18, 3) := by decide +kernel
theorem dX0_travel_13 : decode cX0_travel 13 = .ok (.iadd, 1) := by decide +kernel
theorem dX0_travel_14 : decode cX0_travel 14 = .ok (.istore_n 1, 1) := by decide +kernel
theorem dX0_travel_15 : decode cX0_travel 15 = .ok (.aload_n 2, 1) := by decide +kernel
theorem dX0_travel_16 : decode cX0_travel 16 = .ok (.getfield 28, 3) := by decide +kernel
theorem dX0_travel_19 : decode cX0_travel 19 = .ok (.astore_n 2, 1) := by decide +kernel
theorem dX0_travel_20 : decode cX0_travel 20 = .ok (.goto (-16), 3) := by decide +kernel
theorem dX0_travel_23 : decode cX0_travel 23 = .ok (.iload_n 1, 1) := by decide +kernel
theorem dX0_travel_24 : decode cX0_travel 24 = .ok (.ireturn, 1) := by decide +kernel
theorem dX0_yearly_0 : decode cX0_yearly 0 = .ok (.aload_n 0, 1) := by decide +kernel
theorem dX0_yearly_1 : decode cX0_yearly 1 = .ok (.getfield 18, 3) := by decide +kernel
theorem dX0_yearly_4 : decode cX0_yearly 4 = .ok (.iconst 1, 1) := by decide +kernel
theorem dX0_yearly_5 : decode cX0_yearly 5 = .ok (.if_icmp .ge 7, 3) := by decide +kernel
theorem dX0_yearly_8 : decode cX0_yearly 8 = .ok (.iconst 0, 1) := by decide +kernel
theorem dX0_yearly_9 : decode cX0_yearly 9 = .ok (.goto 15, 3) := by decide +kernel
theorem dX0_yearly_12 : decode cX0_yearly 12 = .ok (.aload_n 0, 1) := by decide +kernel
theorem dX0_yearly_13 : decode cX0_yearly 13 = .ok (.getfield 12, 3) := by decide +kernel
theorem dX0_yearly_16 : decode cX0_yearly 16 = .ok (.getfield 32, 3) := by decide +kernel
theorem dX0_yearly_19 : decode cX0_yearly 19 = .ok (.aload_n 0, 1) := by decide +kernel
theorem dX0_yearly_20 : decode cX0_yearly 20 = .ok (.getfield 18, 3) := by decide +kernel
theorem dX0_yearly_23 : decode cX0_yearly 23 = .ok (.idiv, 1) := by decide +kernel
theorem dX0_yearly_24 : decode cX0_yearly 24 = .ok (.ireturn, 1) := by decide +kernel
theorem dX0_catchRain_0 : decode cX0_catchRain 0 = .ok (.aload_n 0, 1) := by decide +kernel
theorem dX0_catchRain_1 : decode cX0_catchRain 1 = .ok (.getfield 12, 3) := by decide +kernel
theorem dX0_catchRain_4 : decode cX0_catchRain 4 = .ok (.new 35, 3) := by decide +kernel
theorem dX0_catchRain_7 : decode cX0_catchRain 7 = .ok (.dup, 1) := by decide +kernel
theorem dX0_catchRain_8 : decode cX0_catchRain 8 = .ok (.aload_n 0, 1) := by decide +kernel
theorem dX0_catchRain_9 : decode cX0_catchRain 9 = .ok (.getfield 25, 3) := by decide +kernel
theorem dX0_catchRain_12 : decode cX0_catchRain 12 = .ok (.iload_n 1, 1) := by decide +kernel
theorem dX0_catchRain_13 : decode cX0_catchRain 13 = .ok (.aload_n 0, 1) := by decide +kernel
theorem dX0_catchRain_14 : decode cX0_catchRain 14 = .ok (.invokevirtual 37, 3) := by decide +kernel
theorem dX0_catchRain_17 : decode cX0_catchRain 17 = .ok (.aload_n 0, 1) := by decide +kernel
theorem dX0_catchRain_18 : decode cX0_catchRain 18 = .ok (.getfield 41, 3) := by decide +kernel
theorem dX0_catchRain_21 : decode cX0_catchRain 21 = .ok (.iload_n 2, 1) := by decide +kernel
theorem dX0_catchRain_22 : decode cX0_catchRain 22 = .ok (.invokespecial 44, 3) := by decide +kernel
theorem dX0_catchRain_25 : decode cX0_catchRain 25 = .ok (.invokevirtual 47, 3) := by decide +kernel
theorem dX0_catchRain_28 : decode cX0_catchRain 28 = .ok (.aload_n 0, 1) := by decide +kernel
theorem dX0_catchRain_29 : decode cX0_catchRain 29 = .ok (.iconst 0, 1) := by decide +kernel
theorem dX0_catchRain_30 : decode cX0_catchRain 30 = .ok (.putfield 41, 3) := by decide +kernel
theorem dX0_catchRain_33 : decode cX0_catchRain 33 = .ok (.return_, 1) := by decide +kernel
theorem dX0_nitrateOfRain_0 : decode cX0_nitrateOfRain 0 = .ok (.aload_n 0, 1) := by decide +kernel
theorem dX0_nitrateOfRain_1 : decode cX0_nitrateOfRain 1 = .ok (.getfield 22, 3) := by decide +kernel
theorem dX0_nitrateOfRain_4 : decode cX0_nitrateOfRain 4 = .ok (.ifCond .ne 5, 3) := by decide +kernel
theorem dX0_nitrateOfRain_7 : decode cX0_nitrateOfRain 7 = .ok (.iconst 1, 1) := by decide +kernel
theorem dX0_nitrateOfRain_8 : decode cX0_nitrateOfRain 8 = .ok (.ireturn, 1) := by decide +kernel
theorem dX0_nitrateOfRain_9 : decode cX0_nitrateOfRain 9 = .ok (.aload_n 0, 1) := by decide +kernel
theorem dX0_nitrateOfRain_10 : decode cX0_nitrateOfRain 10 = .ok (.getfield 22, 3) := by decide +kernel
theorem dX0_nitrateOfRain_13 : decode cX0_nitrateOfRain 13 = .ok (.iconst 1, 1) := by decide +kernel
theorem dX0_nitrateOfRain_14 : decode cX0_nitrateOfRain 14 = .ok (.if_icmp .eq 10, 3) := by decide +kernel
theorem dX0_nitrateOfRain_17 : decode cX0_nitrateOfRain 17 = .ok (.aload_n 0, 1) := by decide +kernel
theorem dX0_nitrateOfRain_18 : decode cX0_nitrateOfRain 18 = .ok (.getfield 51, 3) := by decide +kernel
theorem dX0_nitrateOfRain_21 : decode cX0_nitrateOfRain 21 = .ok (.ifCond .le 7, 3) := by decide +kernel
theorem dX0_nitrateOfRain_24 : decode cX0_nitrateOfRain 24 = .ok (.iconst 3, 1) := by decide +kernel
theorem dX0_nitrateOfRain_25 : decode cX0_nitrateOfRain 25 = .ok (.goto 5, 3) := by decide +kernel
theorem dX0_nitrateOfRain_28 : decode cX0_nitrateOfRain 28 = .ok (.bipush 10, 2) := by decide +kernel
theorem dX0_nitrateOfRain_30 : decode cX0_nitrateOfRain 30 = .ok (.ireturn, 1) := by decide +kernel
theorem dX1_init_0 : decode cX1_init 0 = .ok (.aload_n 0, 1) := by decide +kernel
theorem dX1_init_1 : decode cX1_init 1 = .ok (.invokespecial 3, 3) := by decide +kernel
theorem dX1_init_4 : decode cX1_init 4 = .ok (.aload_n 0, 1) := by decide +kernel
theorem dX1_init_5 : decode cX1_init 5 = .ok (.bipush 10, 2) := by decide +kernel
theorem dX1_init_7 : decode cX1_init 7 = .ok (.anewarray 9, 3) := by decide +kernel
theorem dX1_init_10 : decode cX1_init 10 = .ok (.putfield 11, 3) := by decide +kernel
theorem dX1_init_13 : decode cX1_init 13 = .ok (.iconst 0, 1) := by decide +kernel
theorem dX1_init_14 : decode cX1_init 14 = .ok (.istore_n 1, 1) := by decide +kernel
theorem dX1_init_15 : decode cX1_init 15 = .ok (.iload_n 1, 1) := by decide +kernel
theorem dX1_init_16 : decode cX1_init 16 = .ok (.bipush 10, 2) := by decide +kernel
theorem dX1_init_18 : decode cX1_init 18 = .ok (.if_icmp .ge 22, 3) := by decide +kernel
theorem dX1_init_21 : decode cX1_init 21 = .ok (.aload_n 0, 1) := by decide +kernel
theorem dX1_init_22 : decode cX1_init 22 = .ok (.getfield 11, 3) := by decide +kernel
theorem dX1_init_25 : decode cX1_init 25 = .ok (.iload_n 1, 1) := by decide +kernel
theorem dX1_init_26 : decode cX1_init 26 = .ok (.new 9, 3) := by decide +kernel
theorem dX1_init_29 : decode cX1_init 29 = .ok (.dup, 1) := by decide +kernel
theorem dX1_init_30 : decode cX1_init 30 = .ok (.invokespecial 17, 3) := by decide +kernel
theorem dX1_init_33 : decode cX1_init 33 = .ok (.aastore, 1) := by decide +kernel
theorem dX1_init_34 : decode cX1_init 34 = .ok (.iinc 1 1, 3) := by decide +kernel
theorem dX1_init_37 : decode cX1_init 37 = .ok (.goto (-22), 3) := by decide +kernel
theorem dX1_init_40 : decode cX1_init 40 = .ok (.return_, 1) := by decide +kernel
theorem dX1_note_0 : decode cX1_note 0 = .ok (.iload_n 3, 1) := by decide +kernel
theorem dX1_note_1 : decode cX1_note 1 = .ok (.iconst 1, 1) := by decide +kernel
theorem dX1_note_2 : decode cX1_note 2 = .ok (.if_icmp .ge 4, 3) := by decide +kernel
theorem dX1_note_5 : decode cX1_note 5 = .ok (.return_, 1) := by decide +kernel
theorem dX1_note_6 : decode cX1_note 6 = .ok (.new 18, 3) := by decide +kernel
theorem dX1_note_9 : decode cX1_note 9 = .ok (.dup, 1) := by decide +kernel
theorem dX1_note_10 : decode cX1_note 10 = .ok (.iload_n 1, 1) := by decide +kernel
theorem dX1_note_11 : decode cX1_note 11 = .ok (.iload_n 2, 1) := by decide +kernel
theorem dX1_note_12 : decode cX1_note 12 = .ok (.iload_n 3, 1) := by decide +kernel
theorem dX1_note_13 : decode cX1_note 13 = .ok (.invokespecial 20, 3) := by decide +kernel
theorem dX1_note_16 : decode cX1_note 16 = .ok (.astore 4, 2) := by decide +kernel
theorem dX1_note_18 : decode cX1_note 18 = .ok (.aload_n 0, 1) := by decide +kernel
theorem dX1_note_19 : decode cX1_note 19 = .ok (.getfield 23, 3) := by decide +kernel
theorem dX1_note_22 : decode cX1_note 22 = .ok (.ifnonnull 12, 3) := by decide +kernel
theorem dX1_note_25 : decode cX1_note 25 = .ok (.aload_n 0, 1) := by decide +kernel
theorem dX1_note_26 : decode cX1_note 26 = .ok (.aload 4, 2) := by decide +kernel
theorem dX1_note_28 : decode cX1_note 28 = .ok (.putfield 27, 3) := by decide +kernel
theorem dX1_note_31 : decode cX1_note 31 = .ok (.goto 12, 3) := by decide +kernel
theorem dX1_note_34 : decode cX1_note 34 = .ok (.aload_n 0, 1) := by decide +kernel
theorem dX1_note_35 : decode cX1_note 35 = .ok (.getfield 23, 3) := by decide +kernel
theorem dX1_note_38 : decode cX1_note 38 = .ok (.aload 4, 2) := by decide +kernel
theorem dX1_note_40 : decode cX1_note 40 = .ok (.putfield 30, 3) := by decide +kernel
theorem dX1_note_43 : decode cX1_note 43 = .ok (.aload_n 0, 1) := by decide +kernel
theorem dX1_note_44 : decode cX1_note 44 = .ok (.aload 4, 2) := by decide +kernel
theorem dX1_note_46 : decode cX1_note 46 = .ok (.putfield 23, 3) := by decide +kernel
theorem dX1_note_49 : decode cX1_note 49 = .ok (.return_, 1) := by decide +kernel
theorem dX1_follow_0 : decode cX1_follow 0 = .ok (.aload_n 0, 1) := by decide +kernel
theorem dX1_follow_1 : decode cX1_follow 1 = .ok (.invokevirtual 33, 3) := by decide +kernel
theorem dX1_follow_4 : decode cX1_follow 4 = .ok (.aload_n 0, 1) := by decide +kernel
theorem dX1_follow_5 : decode cX1_follow 5 = .ok (.getfield 27, 3) := by decide +kernel
theorem dX1_follow_8 : decode cX1_follow 8 = .ok (.astore 4, 2) := by decide +kernel
theorem dX1_follow_10 : decode cX1_follow 10 = .ok (.aload 4, 2) := by decide +kernel
theorem dX1_follow_12 : decode cX1_follow 12 = .ok (.ifnull 69, 3) := by decide +kernel
theorem dX1_follow_15 : decode cX1_follow 15 = .ok (.aload 4, 2) := by decide +kernel
theorem dX1_follow_17 : decode cX1_follow 17 = .ok (.getfield 36, 3) := by decide +kernel
theorem dX1_follow_20 : decode cX1_follow 20 = .ok (.bipush (-2), 2) := by decide +kernel
theorem dX1_follow_22 : decode cX1_follow 22 = .ok (.if_icmp .ne 29, 3) := by decide +kernel
theorem dX1_follow_25 : decode cX1_follow 25 = .ok (.aload_n 0, 1) := by decide +kernel
theorem dX1_follow_26 : decode cX1_follow 26 = .ok (.aload 4, 2) := by decide +kernel
theorem dX1_follow_28 : decode cX1_follow 28 = .ok (.getfield 40, 3) := by decide +kernel
theorem dX1_follow_31 : decode cX1_follow 31 = .ok (.aload 4, 2) := by decide +kernel
theorem dX1_follow_33 : decode cX1_follow 33 = .ok (.getfield 43, 3) := by decide +kernel
theorem dX1_follow_36 : decode cX1_follow 36 = .ok (.iload_n 2, 1) := by decide +kernel
theorem dX1_follow_37 : decode cX1_follow 37 = .ok (.if_icmp .ne 7, 3) := by decide +kernel
theorem dX1_follow_40 : decode cX1_follow 40 = .ok (.iload_n 1, 1) := by decide +kernel
theorem dX1_follow_41 : decode cX1_follow 41 = .ok (.goto 4, 3) := by decide +kernel
theorem dX1_follow_44 : decode cX1_follow 44 = .ok (.iconst (-1), 1) := by decide +kernel
theorem dX1_follow_45 : decode cX1_follow 45 = .ok (.invokevirtual 46, 3) := by decide +kernel
theorem dX1_follow_48 : decode cX1_follow 48 = .ok (.goto 23, 3) := by decide +kernel
theorem dX1_follow_51 : decode cX1_follow 51 = .ok (.aload_n 0, 1) := by decide +kernel
theorem dX1_follow_52 : decode cX1_follow 52 = .ok (.aload 4, 2) := by decide +kernel
theorem dX1_follow_54 : decode cX1_follow 54 = .ok (.invokevirtual 50, 3) := by decide +kernel
theorem dX1_follow_57 : decode cX1_follow 57 = .ok (.istore 5, 2) := by decide +kernel
theorem dX1_follow_59 : decode cX1_follow 59 = .ok (.aload 4, 2) := by decide +kernel
theorem dX1_follow_61 : decode cX1_follow 61 = .ok (.getfield 43, 3) := by decide +kernel
theorem dX1_follow_64 : decode cX1_follow 64 = .ok (.iload_n 3, 1) := by decide +kernel
theorem dX1_follow_65 : decode cX1_follow 65 = .ok (.if_icmp .ne 6, 3) := by decide +kernel
theorem dX1_follow_68 : decode cX1_follow 68 = .ok (.iload 5, 2) := by decide +kernel
theorem dX1_follow_70 : decode cX1_follow 70 = .ok (.ireturn, 1) := by decide +kernel
theorem dX1_follow_71 : decode cX1_follow 71 = .ok (.aload 4, 2) := by decide +kernel
theorem dX1_follow_73 : decode cX1_follow 73 = .ok (.getfield 30, 3) := by decide +kernel
theorem dX1_follow_76 : decode cX1_follow 76 = .ok (.astore 4, 2) := by decide +kernel
theorem dX1_follow_78 : decode cX1_follow 78 = .ok (.goto (-68), 3) := by decide +kernel
theorem dX1_follow_81 : decode cX1_follow 81 = .ok (.iconst 0, 1) := by decide +kernel
theorem dX1_follow_82 : decode cX1_follow 82 = .ok (.ireturn, 1) := by decide +kernel
theorem dX1_emptyTanks_0 : decode cX1_emptyTanks 0 = .ok (.iconst 0, 1) := by decide +kernel
theorem dX1_emptyTanks_1 : decode cX1_emptyTanks 1 = .ok (.istore_n 1, 1) := by decide +kernel
theorem dX1_emptyTanks_2 : decode cX1_emptyTanks 2 = .ok (.iload_n 1, 1) := by decide +kernel
theorem dX1_emptyTanks_3 : decode cX1_emptyTanks 3 = .ok (.bipush 10, 2) := by decide +kernel
theorem dX1_emptyTanks_5 : decode cX1_emptyTanks 5 = .ok (.if_icmp .ge 57, 3) := by decide +kernel
theorem dX1_emptyTanks_8 : decode cX1_emptyTanks 8 = .ok (.aload_n 0, 1) := by decide +kernel
theorem dX1_emptyTanks_9 : decode cX1_emptyTanks 9 = .ok (.getfield 11, 3) := by decide +kernel
theorem dX1_emptyTanks_12 : decode cX1_emptyTanks 12 = .ok (.iload_n 1, 1) := by decide +kernel
theorem dX1_emptyTanks_13 : decode cX1_emptyTanks 13 = .ok (.aaload, 1) := by decide +kernel
theorem dX1_emptyTanks_14 : decode cX1_emptyTanks 14 = .ok (.astore_n 2, 1) := by decide +kernel
theorem dX1_emptyTanks_15 : decode cX1_emptyTanks 15 = .ok (.aload_n 2, 1) := by decide +kernel
theorem dX1_emptyTanks_16 : decode cX1_emptyTanks 16 = .ok (.getfield 54, 3) := by decide +kernel
theorem dX1_emptyTanks_19 : decode cX1_emptyTanks 19 = .ok (.astore_n 3, 1) := by decide +kernel
theorem dX1_emptyTanks_20 : decode cX1_emptyTanks 20 = .ok (.aload_n 3, 1) := by decide +kernel
theorem dX1_emptyTanks_21 : decode cX1_emptyTanks 21 = .ok (.ifnull 20, 3) := by decide +kernel
theorem dX1_emptyTanks_24 : decode cX1_emptyTanks 24 = .ok (.aload_n 3, 1) := by decide +kernel
theorem dX1_emptyTanks_25 : decode cX1_emptyTanks 25 = .ok (.getfield 57, 3) := by decide +kernel
theorem dX1_emptyTanks_28 : decode cX1_emptyTanks 28 = .ok (.astore 4, 2) := by decide +kernel
theorem dX1_emptyTanks_30 : decode cX1_emptyTanks 30 = .ok (.aload_n 0, 1) := by decide +kernel
theorem dX1_emptyTanks_31 : decode cX1_emptyTanks 31 = .ok (.aload_n 3, 1) := by decide +kernel
theorem dX1_emptyTanks_32 : decode cX1_emptyTanks 32 = .ok (.invokevirtual 61, 3) := by decide +kernel
theorem dX1_emptyTanks_35 : decode cX1_emptyTanks 35 = .ok (.aload 4, 2) := by decide +kernel
theorem dX1_emptyTanks_37 : decode cX1_emptyTanks 37 = .ok (.astore_n 3, 1) := by decide +kernel
theorem dX1_emptyTanks_38 : decode cX1_emptyTanks 38 = .ok (.goto (-18), 3) := by decide +kernel
theorem dX1_emptyTanks_41 : decode cX1_emptyTanks 41 = .ok (.aload_n 2, 1) := by decide +kernel
theorem dX1_emptyTanks_42 : decode cX1_emptyTanks 42 = .ok (.aconst_null, 1) := by decide +kernel
theorem dX1_emptyTanks_43 : decode cX1_emptyTanks 43 = .ok (.invokevirtual 65, 3) := by decide +kernel
theorem dX1_emptyTanks_46 : decode cX1_emptyTanks 46 = .ok (.aload_n 2, 1) := by decide +kernel
theorem dX1_emptyTanks_47 : decode cX1_emptyTanks 47 = .ok (.iconst 0, 1) := by decide +kernel
theorem dX1_emptyTanks_48 : decode cX1_emptyTanks 48 = .ok (.putfield 68, 3) := by decide +kernel
theorem dX1_emptyTanks_51 : decode cX1_emptyTanks 51 = .ok (.aload_n 2, 1) := by decide +kernel
theorem dX1_emptyTanks_52 : decode cX1_emptyTanks 52 = .ok (.iconst 0, 1) := by decide +kernel
theorem dX1_emptyTanks_53 : decode cX1_emptyTanks 53 = .ok (.putfield 71, 3) := by decide +kernel
theorem dX1_emptyTanks_56 : decode cX1_emptyTanks 56 = .ok (.iinc 1 1, 3) := by decide +kernel
theorem dX1_emptyTanks_59 : decode cX1_emptyTanks 59 = .ok (.goto (-57), 3) := by decide +kernel
theorem dX1_emptyTanks_62 : decode cX1_emptyTanks 62 = .ok (.return_, 1) := by decide +kernel
theorem dX1_rainAgain_0 : decode cX1_rainAgain 0 = .ok (.iconst 0, 1) := by decide +kernel
theorem dX1_rainAgain_1 : decode cX1_rainAgain 1 = .ok (.istore_n 3, 1) := by decide +kernel
theorem dX1_rainAgain_2 : decode cX1_rainAgain 2 = .ok (.iload_n 3, 1) := by decide +kernel
theorem dX1_rainAgain_3 : decode cX1_rainAgain 3 = .ok (.bipush 10, 2) := by decide +kernel
theorem dX1_rainAgain_5 : decode cX1_rainAgain 5 = .ok (.if_icmp .ge 48, 3) := by decide +kernel
theorem dX1_rainAgain_8 : decode cX1_rainAgain 8 = .ok (.aload_n 0, 1) := by decide +kernel
theorem dX1_rainAgain_9 : decode cX1_rainAgain 9 = .ok (.getfield 11, 3) := by decide +kernel
theorem dX1_rainAgain_12 : decode cX1_rainAgain 12 = .ok (.iload_n 3, 1) := by decide +kernel
theorem dX1_rainAgain_13 : decode cX1_rainAgain 13 = .ok (.aaload, 1) := by decide +kernel
theorem dX1_rainAgain_14 : decode cX1_rainAgain 14 = .ok (.astore 4, 2) := by decide +kernel
theorem dX1_rainAgain_16 : decode cX1_rainAgain 16 = .ok (.iload_n 3, 1) := by decide +kernel
theorem dX1_rainAgain_17 : decode cX1_rainAgain 17 = .ok (.iload_n 2, 1) := by decide +kernel
theorem dX1_rainAgain_18 : decode cX1_rainAgain 18 = .ok (.if_icmp .ne 18, 3) := by decide +kernel
theorem dX1_rainAgain_21 : decode cX1_rainAgain 21 = .ok (.aload 4, 2) := by decide +kernel
theorem dX1_rainAgain_23 : decode cX1_rainAgain 23 = .ok (.aload_n 0, 1) := by decide +kernel
theorem dX1_rainAgain_24 : decode cX1_rainAgain 24 = .ok (.aload 4, 2) := by decide +kernel
theorem dX1_rainAgain_26 : decode cX1_rainAgain 26 = .ok (.getfield 68, 3) := by decide +kernel
theorem dX1_rainAgain_29 : decode cX1_rainAgain 29 = .ok (.iload_n 1, 1) := by decide +kernel
theorem dX1_rainAgain_30 : decode cX1_rainAgain 30 = .ok (.invokevirtual 74, 3) := by decide +kernel
theorem dX1_rainAgain_33 : decode cX1_rainAgain 33 = .ok (.invokevirtual 78, 3) := by decide +kernel
theorem dX1_rainAgain_36 : decode cX1_rainAgain 36 = .ok (.aload 4, 2) := by decide +kernel
theorem dX1_rainAgain_38 : decode cX1_rainAgain 38 = .ok (.dup, 1) := by decide +kernel
theorem dX1_rainAgain_39 : decode cX1_rainAgain 39 = .ok (.getfield 68, 3) := by decide +kernel
theorem dX1_rainAgain_42 : decode cX1_rainAgain 42 = .ok (.iload_n 1, 1) := by decide +kernel
theorem dX1_rainAgain_43 : decode cX1_rainAgain 43 = .ok (.iadd, 1) := by decide +kernel
theorem dX1_rainAgain_44 : decode cX1_rainAgain 44 = .ok (.putfield 68, 3) := by decide +kernel
theorem dX1_rainAgain_47 : decode cX1_rainAgain 47 = .ok (.iinc 3 1, 3) := by decide +kernel
theorem dX1_rainAgain_50 : decode cX1_rainAgain 50 = .ok (.goto (-48), 3) := by decide +kernel
theorem dX1_rainAgain_53 : decode cX1_rainAgain 53 = .ok (.return_, 1) := by decide +kernel
theorem dX1_moveAgain_0 : decode cX1_moveAgain 0 = .ok (.aload_n 0, 1) := by decide +kernel
theorem dX1_moveAgain_1 : decode cX1_moveAgain 1 = .ok (.aload_n 1, 1) := by decide +kernel
theorem dX1_moveAgain_2 : decode cX1_moveAgain 2 = .ok (.getfield 36, 3) := by decide +kernel
theorem dX1_moveAgain_5 : decode cX1_moveAgain 5 = .ok (.invokevirtual 81, 3) := by decide +kernel
theorem dX1_moveAgain_8 : decode cX1_moveAgain 8 = .ok (.astore_n 2, 1) := by decide +kernel
theorem dX1_moveAgain_9 : decode cX1_moveAgain 9 = .ok (.aload_n 0, 1) := by decide +kernel
theorem dX1_moveAgain_10 : decode cX1_moveAgain 10 = .ok (.aload_n 1, 1) := by decide +kernel
theorem dX1_moveAgain_11 : decode cX1_moveAgain 11 = .ok (.getfield 43, 3) := by decide +kernel
theorem dX1_moveAgain_14 : decode cX1_moveAgain 14 = .ok (.invokevirtual 81, 3) := by decide +kernel
theorem dX1_moveAgain_17 : decode cX1_moveAgain 17 = .ok (.astore_n 3, 1) := by decide +kernel
theorem dX1_moveAgain_18 : decode cX1_moveAgain 18 = .ok (.aload_n 2, 1) := by decide +kernel
theorem dX1_moveAgain_19 : decode cX1_moveAgain 19 = .ok (.ifnonnull 5, 3) := by decide +kernel
theorem dX1_moveAgain_22 : decode cX1_moveAgain 22 = .ok (.iconst 0, 1) := by decide +kernel
theorem dX1_moveAgain_23 : decode cX1_moveAgain 23 = .ok (.ireturn, 1) := by decide +kernel
theorem dX1_moveAgain_24 : decode cX1_moveAgain 24 = .ok (.aload_n 2, 1) := by decide +kernel
theorem dX1_moveAgain_25 : decode cX1_moveAgain 25 = .ok (.getfield 71, 3) := by decide +kernel
theorem dX1_moveAgain_28 : decode cX1_moveAgain 28 = .ok (.aload_n 1, 1) := by decide +kernel
theorem dX1_moveAgain_29 : decode cX1_moveAgain 29 = .ok (.getfield 40, 3) := by decide +kernel
theorem dX1_moveAgain_32 : decode cX1_moveAgain 32 = .ok (.iadd, 1) := by decide +kernel
theorem dX1_moveAgain_33 : decode cX1_moveAgain 33 = .ok (.istore 4, 2) := by decide +kernel
theorem dX1_moveAgain_35 : decode cX1_moveAgain 35 = .ok (.iconst 0, 1) := by decide +kernel
theorem dX1_moveAgain_36 : decode cX1_moveAgain 36 = .ok (.istore 5, 2) := by decide +kernel
theorem dX1_moveAgain_38 : decode cX1_moveAgain 38 = .ok (.aload_n 2, 1) := by decide +kernel
theorem dX1_moveAgain_39 : decode cX1_moveAgain 39 = .ok (.getfield 54, 3) := by decide +kernel
theorem dX1_moveAgain_42 : decode cX1_moveAgain 42 = .ok (.astore 6, 2) := by decide +kernel
theorem dX1_moveAgain_44 : decode cX1_moveAgain 44 = .ok (.aload 6, 2) := by decide +kernel
theorem dX1_moveAgain_46 : decode cX1_moveAgain 46 = .ok (.ifnull 78, 3) := by decide +kernel
theorem dX1_moveAgain_49 : decode cX1_moveAgain 49 = .ok (.aload 6, 2) := by decide +kernel
theorem dX1_moveAgain_51 : decode cX1_moveAgain 51 = .ok (.getfield 85, 3) := by decide +kernel
theorem dX1_moveAgain_54 : decode cX1_moveAgain 54 = .ok (.iload 4, 2) := by decide +kernel
theorem dX1_moveAgain_56 : decode cX1_moveAgain 56 = .ok (.if_icmp .ge 68, 3) := by decide +kernel
theorem dX1_moveAgain_59 : decode cX1_moveAgain 59 = .ok (.aload_n 0, 1) := by decide +kernel
theorem dX1_moveAgain_60 : decode cX1_moveAgain 60 = .ok (.aload 6, 2) := by decide +kernel
theorem dX1_moveAgain_62 : decode cX1_moveAgain 62 = .ok (.iload 4, 2) := by decide +kernel
theorem dX1_moveAgain_64 : decode cX1_moveAgain 64 = .ok (.invokevirtual 88, 3) := by decide +kernel
theorem dX1_moveAgain_67 : decode cX1_moveAgain 67 = .ok (.astore 7, 2) := by decide +kernel
theorem dX1_moveAgain_69 : decode cX1_moveAgain 69 = .ok (.iload 5, 2) := by decide +kernel
theorem dX1_moveAgain_71 : decode cX1_moveAgain 71 = .ok (.aload 6, 2) := by decide +kernel
theorem dX1_moveAgain_73 : decode cX1_moveAgain 73 = .ok (.getfield 92, 3) := by decide +kernel
theorem dX1_moveAgain_76 : decode cX1_moveAgain 76 = .ok (.iadd, 1) := by decide +kernel
theorem dX1_moveAgain_77 : decode cX1_moveAgain 77 = .ok (.istore 5, 2) := by decide +kernel
theorem dX1_moveAgain_79 : decode cX1_moveAgain 79 = .ok (.aload_n 3, 1) := by decide +kernel
theorem dX1_moveAgain_80 : decode cX1_moveAgain 80 = .ok (.ifnonnull 12, 3) := by decide +kernel
theorem dX1_moveAgain_83 : decode cX1_moveAgain 83 = .ok (.aload_n 0, 1) := by decide +kernel
theorem dX1_moveAgain_84 : decode cX1_moveAgain 84 = .ok (.aload 6, 2) := by decide +kernel
theorem dX1_moveAgain_86 : decode cX1_moveAgain 86 = .ok (.invokevirtual 61, 3) := by decide +kernel
theorem dX1_moveAgain_89 : decode cX1_moveAgain 89 = .ok (.goto 28, 3) := by decide +kernel
theorem dX1_moveAgain_92 : decode cX1_moveAgain 92 = .ok (.aload 6, 2) := by decide +kernel
theorem dX1_moveAgain_94 : decode cX1_moveAgain 94 = .ok (.dup, 1) := by decide +kernel
theorem dX1_moveAgain_95 : decode cX1_moveAgain 95 = .ok (.getfield 85, 3) := by decide +kernel
theorem dX1_moveAgain_98 : decode cX1_moveAgain 98 = .ok (.aload_n 3, 1) := by decide +kernel
theorem dX1_moveAgain_99 : decode cX1_moveAgain 99 = .ok (.getfield 68, 3) := by decide +kernel
theorem dX1_moveAgain_102 : decode cX1_moveAgain 102 = .ok (.aload_n 2, 1) := by decide +kernel
theorem dX1_moveAgain_103 : decode cX1_moveAgain 103 = .ok (.getfield 71, 3) := by decide +kernel
theorem dX1_moveAgain_106 : decode cX1_moveAgain 106 = .ok (.isub, 1) := by decide +kernel
theorem dX1_moveAgain_107 : decode cX1_moveAgain 107 = .ok (.iadd, 1) := by decide +kernel
theorem dX1_moveAgain_108 : decode cX1_moveAgain 108 = .ok (.putfield 85, 3) := by decide +kernel
theorem dX1_moveAgain_111 : decode cX1_moveAgain 111 = .ok (.aload_n 3, 1) := by decide +kernel
theorem dX1_moveAgain_112 : decode cX1_moveAgain 112 = .ok (.aload 6, 2) := by decide +kernel
theorem dX1_moveAgain_114 : decode cX1_moveAgain 114 = .ok (.invokevirtual 78, 3) := by decide +kernel
theorem dX1_moveAgain_117 : decode cX1_moveAgain 117 = .ok (.aload 7, 2) := by decide +kernel
theorem dX1_moveAgain_119 : decode cX1_moveAgain 119 = .ok (.astore 6, 2) := by decide +kernel
theorem dX1_moveAgain_121 : decode cX1_moveAgain 121 = .ok (.goto (-77), 3) := by decide +kernel
theorem dX1_moveAgain_124 : decode cX1_moveAgain 124 = .ok (.aload_n 2, 1) := by decide +kernel
theorem dX1_moveAgain_125 : decode cX1_moveAgain 125 = .ok (.aload 6, 2) := by decide +kernel
theorem dX1_moveAgain_127 : decode cX1_moveAgain 127 = .ok (.invokevirtual 65, 3) := by decide +kernel
theorem dX1_moveAgain_130 : decode cX1_moveAgain 130 = .ok (.aload_n 2, 1) := by decide +kernel
theorem dX1_moveAgain_131 : decode cX1_moveAgain 131 = .ok (.iload 4, 2) := by decide +kernel
theorem dX1_moveAgain_133 : decode cX1_moveAgain 133 = .ok (.putfield 71, 3) := by decide +kernel
theorem dX1_moveAgain_136 : decode cX1_moveAgain 136 = .ok (.aload_n 3, 1) := by decide +kernel
theorem dX1_moveAgain_137 : decode cX1_moveAgain 137 = .ok (.ifnull 16, 3) := by decide +kernel
theorem dX1_moveAgain_140 : decode cX1_moveAgain 140 = .ok (.aload_n 3, 1) := by decide +kernel
theorem dX1_moveAgain_141 : decode cX1_moveAgain 141 = .ok (.dup, 1) := by decide +kernel
theorem dX1_moveAgain_142 : decode cX1_moveAgain 142 = .ok (.getfield 68, 3) := by decide +kernel
theorem dX1_moveAgain_145 : decode cX1_moveAgain 145 = .ok (.aload_n 1, 1) := by decide +kernel
theorem dX1_moveAgain_146 : decode cX1_moveAgain 146 = .ok (.getfield 40, 3) := by decide +kernel
theorem dX1_moveAgain_149 : decode cX1_moveAgain 149 = .ok (.iadd, 1) := by decide +kernel
theorem dX1_moveAgain_150 : decode cX1_moveAgain 150 = .ok (.putfield 68, 3) := by decide +kernel
theorem dX1_moveAgain_153 : decode cX1_moveAgain 153 = .ok (.iload 5, 2) := by decide +kernel
theorem dX1_moveAgain_155 : decode cX1_moveAgain 155 = .ok (.ireturn, 1) := by decide +kernel
theorem dX1_cut_0 : decode cX1_cut 0 = .ok (.aload_n 1, 1) := by decide +kernel
theorem dX1_cut_1 : decode cX1_cut 1 = .ok (.getfield 85, 3) := by decide +kernel
theorem dX1_cut_4 : decode cX1_cut 4 = .ok (.aload_n 1, 1) := by decide +kernel
theorem dX1_cut_5 : decode cX1_cut 5 = .ok (.getfield 92, 3) := by decide +kernel
theorem dX1_cut_8 : decode cX1_cut 8 = .ok (.iadd, 1) := by decide +kernel
theorem dX1_cut_9 : decode cX1_cut 9 = .ok (.iload_n 2, 1) := by decide +kernel
theorem dX1_cut_10 : decode cX1_cut 10 = .ok (.isub, 1) := by decide +kernel
theorem dX1_cut_11 : decode cX1_cut 11 = .ok (.istore_n 3, 1) := by decide +kernel
theorem dX1_cut_12 : decode cX1_cut 12 = .ok (.iload_n 3, 1) := by decide +kernel
theorem dX1_cut_13 : decode cX1_cut 13 = .ok (.ifCond .gt 8, 3) := by decide +kernel
theorem dX1_cut_16 : decode cX1_cut 16 = .ok (.aload_n 1, 1) := by decide +kernel
theorem dX1_cut_17 : decode cX1_cut 17 = .ok (.getfield 57, 3) := by decide +kernel
theorem dX1_cut_20 : decode cX1_cut 20 = .ok (.areturn, 1) := by decide +kernel
theorem dX1_cut_21 : decode cX1_cut 21 = .ok (.aload_n 0, 1) := by decide +kernel
theorem dX1_cut_22 : decode cX1_cut 22 = .ok (.iload_n 2, 1) := by decide +kernel
theorem dX1_cut_23 : decode cX1_cut 23 = .ok (.iload_n 3, 1) := by decide +kernel
theorem dX1_cut_24 : decode cX1_cut 24 = .ok (.invokevirtual 74, 3) := by decide +kernel
theorem dX1_cut_27 : decode cX1_cut 27 = .ok (.astore 4, 2) := by decide +kernel
theorem dX1_cut_29 : decode cX1_cut 29 = .ok (.aload 4, 2) := by decide +kernel
theorem dX1_cut_31 : decode cX1_cut 31 = .ok (.aload_n 1, 1) := by decide +kernel
theorem dX1_cut_32 : decode cX1_cut 32 = .ok (.getfield 57, 3) := by decide +kernel
theorem dX1_cut_35 : decode cX1_cut 35 = .ok (.putfield 57, 3) := by decide +kernel
theorem dX1_cut_38 : decode cX1_cut 38 = .ok (.aload_n 1, 1) := by decide +kernel
theorem dX1_cut_39 : decode cX1_cut 39 = .ok (.dup, 1) := by decide +kernel
theorem dX1_cut_40 : decode cX1_cut 40 = .ok (.getfield 92, 3) := by decide +kernel
theorem dX1_cut_43 : decode cX1_cut 43 = .ok (.iload_n 3, 1) := by decide +kernel
theorem dX1_cut_44 : decode cX1_cut 44 = .ok (.isub, 1) := by decide +kernel
theorem dX1_cut_45 : decode cX1_cut 45 = .ok (.putfield 92, 3) := by decide +kernel
theorem dX1_cut_48 : decode cX1_cut 48 = .ok (.aload 4, 2) := by decide +kernel
theorem dX1_cut_50 : decode cX1_cut 50 = .ok (.areturn, 1) := by decide +kernel
theorem dX1_tankAt_0 : decode cX1_tankAt 0 = .ok (.iload_n 1, 1) := by decide +kernel
theorem dX1_tankAt_1 : decode cX1_tankAt 1 = .ok (.ifCond .lt 9, 3) := by decide +kernel
theorem dX1_tankAt_4 : decode cX1_tankAt 4 = .ok (.iload_n 1, 1) := by decide +kernel
theorem dX1_tankAt_5 : decode cX1_tankAt 5 = .ok (.bipush 10, 2) := by decide +kernel
theorem dX1_tankAt_7 : decode cX1_tankAt 7 = .ok (.if_icmp .lt 7, 3) := by decide +kernel
theorem dX1_tankAt_10 : decode cX1_tankAt 10 = .ok (.aconst_null, 1) := by decide +kernel
theorem dX1_tankAt_11 : decode cX1_tankAt 11 = .ok (.goto 9, 3) := by decide +kernel
theorem dX1_tankAt_14 : decode cX1_tankAt 14 = .ok (.aload_n 0, 1) := by decide +kernel
theorem dX1_tankAt_15 : decode cX1_tankAt 15 = .ok (.getfield 11, 3) := by decide +kernel
theorem dX1_tankAt_18 : decode cX1_tankAt 18 = .ok (.iload_n 1, 1) := by decide +kernel
theorem dX1_tankAt_19 : decode cX1_tankAt 19 = .ok (.aaload, 1) := by decide +kernel
theorem dX1_tankAt_20 : decode cX1_tankAt 20 = .ok (.areturn, 1) := by decide +kernel
theorem dX1_newPiece_0 : decode cX1_newPiece 0 = .ok (.aload_n 0, 1) := by decide +kernel
theorem dX1_newPiece_1 : decode cX1_newPiece 1 = .ok (.getfield 93, 3) := by decide +kernel
theorem dX1_newPiece_4 : decode cX1_newPiece 4 = .ok (.astore_n 3, 1) := by decide +kernel
theorem dX1_newPiece_5 : decode cX1_newPiece 5 = .ok (.aload_n 3, 1) := by decide +kernel
theorem dX1_newPiece_6 : decode cX1_newPiece 6 = .ok (.ifnonnull 14, 3) := by decide +kernel
theorem dX1_newPiece_9 : decode cX1_newPiece 9 = .ok (.new 58, 3) := by decide +kernel
theorem dX1_newPiece_12 : decode cX1_newPiece 12 = .ok (.dup, 1) := by decide +kernel
theorem dX1_newPiece_13 : decode cX1_newPiece 13 = .ok (.invokespecial 96, 3) := by decide +kernel
theorem dX1_newPiece_16 : decode cX1_newPiece 16 = .ok (.astore_n 3, 1) := by decide +kernel
theorem dX1_newPiece_17 : decode cX1_newPiece 17 = .ok (.goto 11, 3) := by decide +kernel
theorem dX1_newPiece_20 : decode cX1_newPiece 20 = .ok (.aload_n 0, 1) := by decide +kernel
theorem dX1_newPiece_21 : decode cX1_newPiece 21 = .ok (.aload_n 3, 1) := by decide +kernel
theorem dX1_newPiece_22 : decode cX1_newPiece 22 = .ok (.getfield 57, 3) := by decide +kernel
theorem dX1_newPiece_25 : decode cX1_newPiece 25 = .ok (.putfield 93, 3) := by decide +kernel
theorem dX1_newPiece_28 : decode cX1_newPiece 28 = .ok (.aload_n 3, 1) := by decide +kernel
theorem dX1_newPiece_29 : decode cX1_newPiece 29 = .ok (.iload_n 1, 1) := by decide +kernel
theorem dX1_newPiece_30 : decode cX1_newPiece 30 = .ok (.putfield 85, 3) := by decide +kernel
theorem dX1_newPiece_33 : decode cX1_newPiece 33 = .ok (.aload_n 3, 1) := by decide +kernel
theorem dX1_newPiece_34 : decode cX1_newPiece 34 = .ok (.iload_n 2, 1) := by decide +kernel
theorem dX1_newPiece_35 : decode cX1_newPiece 35 = .ok (.putfield 92, 3) := by decide +kernel
theorem dX1_newPiece_38 : decode cX1_newPiece 38 = .ok (.aload_n 3, 1) := by decide +kernel
theorem dX1_newPiece_39 : decode cX1_newPiece 39 = .ok (.areturn, 1) := by decide +kernel
theorem dX1_putAway_0 : decode cX1_putAway 0 = .ok (.aload_n 1, 1) := by decide +kernel
theorem dX1_putAway_1 : decode cX1_putAway 1 = .ok (.aload_n 0, 1) := by decide +kernel
theorem dX1_putAway_2 : decode cX1_putAway 2 = .ok (.getfield 93, 3) := by decide +kernel
theorem dX1_putAway_5 : decode cX1_putAway 5 = .ok (.putfield 57, 3) := by decide +kernel
theorem dX1_putAway_8 : decode cX1_putAway 8 = .ok (.aload_n 0, 1) := by decide +kernel
theorem dX1_putAway_9 : decode cX1_putAway 9 = .ok (.aload_n 1, 1) := by decide +kernel
theorem dX1_putAway_10 : decode cX1_putAway 10 = .ok (.putfield 93, 3) := by decide +kernel
theorem dX1_putAway_13 : decode cX1_putAway 13 = .ok (.return_, 1) := by decide +kernel
theorem dX2_init_0 : decode cX2_init 0 = .ok (.aload_n 0, 1) := by decide +kernel
theorem dX2_init_1 : decode cX2_init 1 = .ok (.invokespecial 3, 3) := by decide +kernel
theorem dX2_init_4 : decode cX2_init 4 = .ok (.aload_n 0, 1) := by decide +kernel
theorem dX2_init_5 : decode cX2_init 5 = .ok (.new 9, 3) := by decide +kernel
theorem dX2_init_8 : decode cX2_init 8 = .ok (.dup, 1) := by decide +kernel
theorem dX2_init_9 : decode cX2_init 9 = .ok (.invokespecial 11, 3) := by decide +kernel
theorem dX2_init_12 : decode cX2_init 12 = .ok (.putfield 12, 3) := by decide +kernel
theorem dX2_init_15 : decode cX2_init 15 = .ok (.aload_n 0, 1) := by decide +kernel
theorem dX2_init_16 : decode cX2_init 16 = .ok (.iconst (-1), 1) := by decide +kernel
theorem dX2_init_17 : decode cX2_init 17 = .ok (.putfield 18, 3) := by decide +kernel
theorem dX2_init_20 : decode cX2_init 20 = .ok (.aload_n 0, 1) := by decide +kernel
theorem dX2_init_21 : decode cX2_init 21 = .ok (.iload_n 1, 1) := by decide +kernel
theorem dX2_init_22 : decode cX2_init 22 = .ok (.putfield 22, 3) := by decide +kernel
theorem dX2_init_25 : decode cX2_init 25 = .ok (.aload_n 0, 1) := by decide +kernel
theorem dX2_init_26 : decode cX2_init 26 = .ok (.iload_n 2, 1) := by decide +kernel
theorem dX2_init_27 : decode cX2_init 27 = .ok (.putfield 25, 3) := by decide +kernel
theorem dX2_init_30 : decode cX2_init 30 = .ok (.aload_n 0, 1) := by decide +kernel
theorem dX2_init_31 : decode cX2_init 31 = .ok (.getfield 12, 3) := by decide +kernel
theorem dX2_init_34 : decode cX2_init 34 = .ok (.aload_n 3, 1) := by decide +kernel
theorem dX2_init_35 : decode cX2_init 35 = .ok (.invokevirtual 28, 3) := by decide +kernel
theorem dX2_init_38 : decode cX2_init 38 = .ok (.return_, 1) := by decide +kernel
theorem dX2_leastAge_0 : decode cX2_leastAge 0 = .ok (.aload_n 0, 1) := by decide +kernel
theorem dX2_leastAge_1 : decode cX2_leastAge 1 = .ok (.getfield 25, 3) := by decide +kernel
theorem dX2_leastAge_4 : decode cX2_leastAge 4 = .ok (.aload_n 0, 1) := by decide +kernel
theorem dX2_leastAge_5 : decode cX2_leastAge 5 = .ok (.getfield 12, 3) := by decide +kernel
theorem dX2_leastAge_8 : decode cX2_leastAge 8 = .ok (.invokevirtual 32, 3) := by decide +kernel
theorem dX2_leastAge_11 : decode cX2_leastAge 11 = .ok (.isub, 1) := by decide +kernel
theorem dX2_leastAge_12 : decode cX2_leastAge 12 = .ok (.ireturn, 1) := by decide +kernel
theorem dX2_greatestAge_0 : decode cX2_greatestAge 0 = .ok (.aload_n 0, 1) := by decide +kernel
theorem dX2_greatestAge_1 : decode cX2_greatestAge 1 = .ok (.getfield 25, 3) := by decide +kernel
theorem dX2_greatestAge_4 : decode cX2_greatestAge 4 = .ok (.aload_n 0, 1) := by decide +kernel
theorem dX2_greatestAge_5 : decode cX2_greatestAge 5 = .ok (.getfield 12, 3) := by decide +kernel
theorem dX2_greatestAge_8 : decode cX2_greatestAge 8 = .ok (.invokevirtual 36, 3) := by decide +kernel
theorem dX2_greatestAge_11 : decode cX2_greatestAge 11 = .ok (.isub, 1) := by decide +kernel
theorem dX2_greatestAge_12 : decode cX2_greatestAge 12 = .ok (.ireturn, 1) := by decide +kernel
theorem dX2_meanAge_0 : decode cX2_meanAge 0 = .ok (.aload_n 0, 1) := by decide +kernel
theorem dX2_meanAge_1 : decode cX2_meanAge 1 = .ok (.getfield 12, 3) := by decide +kernel
theorem dX2_meanAge_4 : decode cX2_meanAge 4 = .ok (.getfield 39, 3) := by decide +kernel
theorem dX2_meanAge_7 : decode cX2_meanAge 7 = .ok (.iconst 1, 1) := by decide +kernel
theorem dX2_meanAge_8 : decode cX2_meanAge 8 = .ok (.if_icmp .ge 5, 3) := by decide +kernel
theorem dX2_meanAge_11 : decode cX2_meanAge 11 = .ok (.fconst 0, 1) := by decide +kernel
theorem dX2_meanAge_12 : decode cX2_meanAge 12 = .ok (.freturn, 1) := by decide +kernel
theorem dX2_meanAge_13 : decode cX2_meanAge 13 = .ok (.aload_n 0, 1) := by decide +kernel
theorem dX2_meanAge_14 : decode cX2_meanAge 14 = .ok (.getfield 12, 3) := by decide +kernel
theorem dX2_meanAge_17 : decode cX2_meanAge 17 = .ok (.aload_n 0, 1) := by decide +kernel
theorem dX2_meanAge_18 : decode cX2_meanAge 18 = .ok (.getfield 25, 3) := by decide +kernel
theorem dX2_meanAge_21 : decode cX2_meanAge 21 = .ok (.invokevirtual 42, 3) := by decide +kernel
theorem dX2_meanAge_24 : decode cX2_meanAge 24 = .ok (.i2f, 1) := by decide +kernel
theorem dX2_meanAge_25 : decode cX2_meanAge 25 = .ok (.aload_n 0, 1) := by decide +kernel
theorem dX2_meanAge_26 : decode cX2_meanAge 26 = .ok (.getfield 12, 3) := by decide +kernel
theorem dX2_meanAge_29 : decode cX2_meanAge 29 = .ok (.getfield 39, 3) := by decide +kernel
theorem dX2_meanAge_32 : decode cX2_meanAge 32 = .ok (.i2f, 1) := by decide +kernel
theorem dX2_meanAge_33 : decode cX2_meanAge 33 = .ok (.fdiv, 1) := by decide +kernel
theorem dX2_meanAge_34 : decode cX2_meanAge 34 = .ok (.freturn, 1) := by decide +kernel
theorem dX2_truth_0 : decode cX2_truth 0 = .ok (.aload_n 0, 1) := by decide +kernel
theorem dX2_truth_1 : decode cX2_truth 1 = .ok (.getfield 18, 3) := by decide +kernel
theorem dX2_truth_4 : decode cX2_truth 4 = .ok (.iconst (-1), 1) := by decide +kernel
theorem dX2_truth_5 : decode cX2_truth 5 = .ok (.if_icmp .ne 5, 3) := by decide +kernel
theorem dX2_truth_8 : decode cX2_truth 8 = .ok (.iconst (-1), 1) := by decide +kernel
theorem dX2_truth_9 : decode cX2_truth 9 = .ok (.ireturn, 1) := by decide +kernel
theorem dX2_truth_10 : decode cX2_truth 10 = .ok (.aload_n 0, 1) := by decide +kernel
theorem dX2_truth_11 : decode cX2_truth 11 = .ok (.getfield 46, 3) := by decide +kernel
theorem dX2_truth_14 : decode cX2_truth 14 = .ok (.ifCond .eq 7, 3) := by decide +kernel
theorem dX2_truth_17 : decode cX2_truth 17 = .ok (.iconst 1, 1) := by decide +kernel
theorem dX2_truth_18 : decode cX2_truth 18 = .ok (.goto 4, 3) := by decide +kernel
theorem dX2_truth_21 : decode cX2_truth 21 = .ok (.iconst 0, 1) := by decide +kernel
theorem dX2_truth_22 : decode cX2_truth 22 = .ok (.ireturn, 1) := by decide +kernel
theorem dX2_isOfKind_0 : decode cX2_isOfKind 0 = .ok (.iload_n 1, 1) := by decide +kernel
theorem dX2_isOfKind_1 : decode cX2_isOfKind 1 = .ok (.lookupswitch 77 #[(0, 27), (1, 65)], 27) := by decide +kernel
theorem dX2_isOfKind_28 : decode cX2_isOfKind 28 = .ok (.aload_n 0, 1) := by decide +kernel
theorem dX2_isOfKind_29 : decode cX2_isOfKind 29 = .ok (.iconst 1, 1) := by decide +kernel
theorem dX2_isOfKind_30 : decode cX2_isOfKind 30 = .ok (.iload_n 2, 1) := by decide +kernel
theorem dX2_isOfKind_31 : decode cX2_isOfKind 31 = .ok (.iconst (-1), 1) := by decide +kernel
theorem dX2_isOfKind_32 : decode cX2_isOfKind 32 = .ok (.ixor, 1) := by decide +kernel
theorem dX2_isOfKind_33 : decode cX2_isOfKind 33 = .ok (.iand, 1) := by decide +kernel
theorem dX2_isOfKind_34 : decode cX2_isOfKind 34 = .ok (.iconst 5, 1) := by decide +kernel
theorem dX2_isOfKind_35 : decode cX2_isOfKind 35 = .ok (.invokevirtual 50, 3) := by decide +kernel
theorem dX2_isOfKind_38 : decode cX2_isOfKind 38 = .ok (.ifCond .eq 26, 3) := by decide +kernel
theorem dX2_isOfKind_41 : decode cX2_isOfKind 41 = .ok (.aload_n 0, 1) := by decide +kernel
theorem dX2_isOfKind_42 : decode cX2_isOfKind 42 = .ok (.getfield 12, 3) := by decide +kernel
theorem dX2_isOfKind_45 : decode cX2_isOfKind 45 = .ok (.invokevirtual 54, 3) := by decide +kernel
theorem dX2_isOfKind_48 : decode cX2_isOfKind 48 = .ok (.ifCond .ne 16, 3) := by decide +kernel
theorem dX2_isOfKind_51 : decode cX2_isOfKind 51 = .ok (.aload_n 0, 1) := by decide +kernel
theorem dX2_isOfKind_52 : decode cX2_isOfKind 52 = .ok (.invokevirtual 57, 3) := by decide +kernel
theorem dX2_isOfKind_55 : decode cX2_isOfKind 55 = .ok (.bipush 10, 2) := by decide +kernel
theorem dX2_isOfKind_57 : decode cX2_isOfKind 57 = .ok (.if_icmp .lt 7, 3) := by decide +kernel
theorem dX2_isOfKind_60 : decode cX2_isOfKind 60 = .ok (.iconst 1, 1) := by decide +kernel
theorem dX2_isOfKind_61 : decode cX2_isOfKind 61 = .ok (.goto 4, 3) := by decide +kernel
theorem dX2_isOfKind_64 : decode cX2_isOfKind 64 = .ok (.iconst 0, 1) := by decide +kernel
theorem dX2_isOfKind_65 : decode cX2_isOfKind 65 = .ok (.ireturn, 1) := by decide +kernel
theorem dX2_isOfKind_66 : decode cX2_isOfKind 66 = .ok (.aload_n 0, 1) := by decide +kernel
theorem dX2_isOfKind_67 : decode cX2_isOfKind 67 = .ok (.iconst 3, 1) := by decide +kernel
theorem dX2_isOfKind_68 : decode cX2_isOfKind 68 = .ok (.iload_n 2, 1) := by decide +kernel
theorem dX2_isOfKind_69 : decode cX2_isOfKind 69 = .ok (.iconst (-1), 1) := by decide +kernel
theorem dX2_isOfKind_70 : decode cX2_isOfKind 70 = .ok (.ixor, 1) := by decide +kernel
theorem dX2_isOfKind_71 : decode cX2_isOfKind 71 = .ok (.iand, 1) := by decide +kernel
theorem dX2_isOfKind_72 : decode cX2_isOfKind 72 = .ok (.bipush 8, 2) := by decide +kernel
theorem dX2_isOfKind_74 : decode cX2_isOfKind 74 = .ok (.invokevirtual 50, 3) := by decide +kernel
theorem dX2_isOfKind_77 : decode cX2_isOfKind 77 = .ok (.ireturn, 1) := by decide +kernel
theorem dX2_isOfKind_78 : decode cX2_isOfKind 78 = .ok (.iconst 1, 1) := by decide +kernel
theorem dX2_isOfKind_79 : decode cX2_isOfKind 79 = .ok (.ireturn, 1) := by decide +kernel
theorem dX2_hasAtMost_0 : decode cX2_hasAtMost 0 = .ok (.aload_n 0, 1) := by decide +kernel
theorem dX2_hasAtMost_1 : decode cX2_hasAtMost 1 = .ok (.getfield 60, 3) := by decide +kernel
theorem dX2_hasAtMost_4 : decode cX2_hasAtMost 4 = .ok (.iload_n 1, 1) := by decide +kernel
theorem dX2_hasAtMost_5 : decode cX2_hasAtMost 5 = .ok (.iconst (-1), 1) := by decide +kernel
theorem dX2_hasAtMost_6 : decode cX2_hasAtMost 6 = .ok (.ixor, 1) := by decide +kernel
theorem dX2_hasAtMost_7 : decode cX2_hasAtMost 7 = .ok (.iand, 1) := by decide +kernel
theorem dX2_hasAtMost_8 : decode cX2_hasAtMost 8 = .ok (.ifCond .ne 26, 3) := by decide +kernel
theorem dX2_hasAtMost_11 : decode cX2_hasAtMost 11 = .ok (.aload_n 0, 1) := by decide +kernel
theorem dX2_hasAtMost_12 : decode cX2_hasAtMost 12 = .ok (.getfield 12, 3) := by decide +kernel
theorem dX2_hasAtMost_15 : decode cX2_hasAtMost 15 = .ok (.invokevirtual 63, 3) := by decide +kernel
theorem dX2_hasAtMost_18 : decode cX2_hasAtMost 18 = .ok (.iload_n 2, 1) := by decide +kernel
theorem dX2_hasAtMost_19 : decode cX2_hasAtMost 19 = .ok (.aload_n 0, 1) := by decide +kernel
theorem dX2_hasAtMost_20 : decode cX2_hasAtMost 20 = .ok (.getfield 12, 3) := by decide +kernel
theorem dX2_hasAtMost_23 : decode cX2_hasAtMost 23 = .ok (.getfield 39, 3) := by decide +kernel
theorem dX2_hasAtMost_26 : decode cX2_hasAtMost 26 = .ok (.imul, 1) := by decide +kernel
theorem dX2_hasAtMost_27 : decode cX2_hasAtMost 27 = .ok (.if_icmp .gt 7, 3) := by decide +kernel
theorem dX2_hasAtMost_30 : decode cX2_hasAtMost 30 = .ok (.iconst 1, 1) := by decide +kernel
theorem dX2_hasAtMost_31 : decode cX2_hasAtMost 31 = .ok (.goto 4, 3) := by decide +kernel
theorem dX2_hasAtMost_34 : decode cX2_hasAtMost 34 = .ok (.iconst 0, 1) := by decide +kernel
theorem dX2_hasAtMost_35 : decode cX2_hasAtMost 35 = .ok (.ireturn, 1) := by decide +kernel
theorem dX2_isRecalledBy_0 : decode cX2_isRecalledBy 0 = .ok (.aload_n 0, 1) := by decide +kernel
theorem dX2_isRecalledBy_1 : decode cX2_isRecalledBy 1 = .ok (.getfield 18, 3) := by decide +kernel
theorem dX2_isRecalledBy_4 : decode cX2_isRecalledBy 4 = .ok (.ifCond .eq 11, 3) := by decide +kernel
theorem dX2_isRecalledBy_7 : decode cX2_isRecalledBy 7 = .ok (.aload_n 0, 1) := by decide +kernel
theorem dX2_isRecalledBy_8 : decode cX2_isRecalledBy 8 = .ok (.getfield 18, 3) := by decide +kernel
theorem dX2_isRecalledBy_11 : decode cX2_isRecalledBy 11 = .ok (.iconst 1, 1) := by decide +kernel
theorem dX2_isRecalledBy_12 : decode cX2_isRecalledBy 12 = .ok (.if_icmp .ne 7, 3) := by decide +kernel
theorem dX2_isRecalledBy_15 : decode cX2_isRecalledBy 15 = .ok (.iconst 1, 1) := by decide +kernel
theorem dX2_isRecalledBy_16 : decode cX2_isRecalledBy 16 = .ok (.goto 4, 3) := by decide +kernel
theorem dX2_isRecalledBy_19 : decode cX2_isRecalledBy 19 = .ok (.iconst 0, 1) := by decide +kernel
theorem dX2_isRecalledBy_20 : decode cX2_isRecalledBy 20 = .ok (.istore_n 2, 1) := by decide +kernel
theorem dX2_isRecalledBy_21 : decode cX2_isRecalledBy 21 = .ok (.iload_n 2, 1) := by decide +kernel
theorem dX2_isRecalledBy_22 : decode cX2_isRecalledBy 22 = .ok (.ifCond .eq 23, 3) := by decide +kernel
theorem dX2_isRecalledBy_25 : decode cX2_isRecalledBy 25 = .ok (.aload_n 0, 1) := by decide +kernel
theorem dX2_isRecalledBy_26 : decode cX2_isRecalledBy 26 = .ok (.getfield 66, 3) := by decide +kernel
theorem dX2_isRecalledBy_29 : decode cX2_isRecalledBy 29 = .ok (.ifCond .ne 16, 3) := by decide +kernel
theorem dX2_isRecalledBy_32 : decode cX2_isRecalledBy 32 = .ok (.aload_n 0, 1) := by decide +kernel
theorem dX2_isRecalledBy_33 : decode cX2_isRecalledBy 33 = .ok (.getfield 60, 3) := by decide +kernel
theorem dX2_isRecalledBy_36 : decode cX2_isRecalledBy 36 = .ok (.iload_n 1, 1) := by decide +kernel
theorem dX2_isRecalledBy_37 : decode cX2_isRecalledBy 37 = .ok (.iand, 1) := by decide +kernel
theorem dX2_isRecalledBy_38 : decode cX2_isRecalledBy 38 = .ok (.ifCond .eq 7, 3) := by decide +kernel
theorem dX2_isRecalledBy_41 : decode cX2_isRecalledBy 41 = .ok (.iconst 1, 1) := by decide +kernel
theorem dX2_isRecalledBy_42 : decode cX2_isRecalledBy 42 = .ok (.goto 4, 3) := by decide +kernel
theorem dX2_isRecalledBy_45 : decode cX2_isRecalledBy 45 = .ok (.iconst 0, 1) := by decide +kernel
theorem dX2_isRecalledBy_46 : decode cX2_isRecalledBy 46 = .ok (.ireturn, 1) := by decide +kernel
theorem dX3_init_0 : decode cX3_init 0 = .ok (.aload_n 0, 1) := by decide +kernel
theorem dX3_init_1 : decode cX3_init 1 = .ok (.invokespecial 1, 3) := by decide +kernel
theorem dX3_init_4 : decode cX3_init 4 = .ok (.aload_n 0, 1) := by decide +kernel
theorem dX3_init_5 : decode cX3_init 5 = .ok (.iload_n 1, 1) := by decide +kernel
theorem dX3_init_6 : decode cX3_init 6 = .ok (.putfield 7, 3) := by decide +kernel
theorem dX3_init_9 : decode cX3_init 9 = .ok (.aload_n 0, 1) := by decide +kernel
theorem dX3_init_10 : decode cX3_init 10 = .ok (.iload_n 2, 1) := by decide +kernel
theorem dX3_init_11 : decode cX3_init 11 = .ok (.putfield 13, 3) := by decide +kernel
theorem dX3_init_14 : decode cX3_init 14 = .ok (.aload_n 0, 1) := by decide +kernel
theorem dX3_init_15 : decode cX3_init 15 = .ok (.iload_n 3, 1) := by decide +kernel
theorem dX3_init_16 : decode cX3_init 16 = .ok (.putfield 16, 3) := by decide +kernel
theorem dX3_init_19 : decode cX3_init 19 = .ok (.return_, 1) := by decide +kernel
theorem dX4_init_0 : decode cX4_init 0 = .ok (.aload_n 0, 1) := by decide +kernel
theorem dX4_init_1 : decode cX4_init 1 = .ok (.invokespecial 1, 3) := by decide +kernel
theorem dX4_init_4 : decode cX4_init 4 = .ok (.return_, 1) := by decide +kernel
theorem dX5_init_0 : decode cX5_init 0 = .ok (.aload_n 0, 1) := by decide +kernel
theorem dX5_init_1 : decode cX5_init 1 = .ok (.invokespecial 1, 3) := by decide +kernel
theorem dX5_init_4 : decode cX5_init 4 = .ok (.aload_n 0, 1) := by decide +kernel
theorem dX5_init_5 : decode cX5_init 5 = .ok (.iload_n 1, 1) := by decide +kernel
theorem dX5_init_6 : decode cX5_init 6 = .ok (.putfield 7, 3) := by decide +kernel
theorem dX5_init_9 : decode cX5_init 9 = .ok (.aload_n 0, 1) := by decide +kernel
theorem dX5_init_10 : decode cX5_init 10 = .ok (.iload_n 2, 1) := by decide +kernel
theorem dX5_init_11 : decode cX5_init 11 = .ok (.putfield 13, 3) := by decide +kernel
theorem dX5_init_14 : decode cX5_init 14 = .ok (.aload_n 0, 1) := by decide +kernel
theorem dX5_init_15 : decode cX5_init 15 = .ok (.iload_n 3, 1) := by decide +kernel
theorem dX5_init_16 : decode cX5_init 16 = .ok (.putfield 16, 3) := by decide +kernel
theorem dX5_init_19 : decode cX5_init 19 = .ok (.aload_n 0, 1) := by decide +kernel
theorem dX5_init_20 : decode cX5_init 20 = .ok (.iload 4, 2) := by decide +kernel
theorem dX5_init_22 : decode cX5_init 22 = .ok (.putfield 19, 3) := by decide +kernel
theorem dX5_init_25 : decode cX5_init 25 = .ok (.aload_n 0, 1) := by decide +kernel
theorem dX5_init_26 : decode cX5_init 26 = .ok (.iload 5, 2) := by decide +kernel
theorem dX5_init_28 : decode cX5_init 28 = .ok (.putfield 22, 3) := by decide +kernel
theorem dX5_init_31 : decode cX5_init 31 = .ok (.return_, 1) := by decide +kernel
theorem dX5_splitOff_0 : decode cX5_splitOff 0 = .ok (.aload_n 0, 1) := by decide +kernel
theorem dX5_splitOff_1 : decode cX5_splitOff 1 = .ok (.dup, 1) := by decide +kernel
theorem dX5_splitOff_2 : decode cX5_splitOff 2 = .ok (.getfield 22, 3) := by decide +kernel
theorem dX5_splitOff_5 : decode cX5_splitOff 5 = .ok (.iload_n 1, 1) := by decide +kernel
theorem dX5_splitOff_6 : decode cX5_splitOff 6 = .ok (.isub, 1) := by decide +kernel
theorem dX5_splitOff_7 : decode cX5_splitOff 7 = .ok (.putfield 22, 3) := by decide +kernel
theorem dX5_splitOff_10 : decode cX5_splitOff 10 = .ok (.new 8, 3) := by decide +kernel
theorem dX5_splitOff_13 : decode cX5_splitOff 13 = .ok (.dup, 1) := by decide +kernel
theorem dX5_splitOff_14 : decode cX5_splitOff 14 = .ok (.aload_n 0, 1) := by decide +kernel
theorem dX5_splitOff_15 : decode cX5_splitOff 15 = .ok (.getfield 7, 3) := by decide +kernel
theorem dX5_splitOff_18 : decode cX5_splitOff 18 = .ok (.aload_n 0, 1) := by decide +kernel
theorem dX5_splitOff_19 : decode cX5_splitOff 19 = .ok (.getfield 13, 3) := by decide +kernel
theorem dX5_splitOff_22 : decode cX5_splitOff 22 = .ok (.aload_n 0, 1) := by decide +kernel
theorem dX5_splitOff_23 : decode cX5_splitOff 23 = .ok (.getfield 16, 3) := by decide +kernel
theorem dX5_splitOff_26 : decode cX5_splitOff 26 = .ok (.aload_n 0, 1) := by decide +kernel
theorem dX5_splitOff_27 : decode cX5_splitOff 27 = .ok (.getfield 19, 3) := by decide +kernel
theorem dX5_splitOff_30 : decode cX5_splitOff 30 = .ok (.iload_n 1, 1) := by decide +kernel
theorem dX5_splitOff_31 : decode cX5_splitOff 31 = .ok (.invokespecial 25, 3) := by decide +kernel
theorem dX5_splitOff_34 : decode cX5_splitOff 34 = .ok (.areturn, 1) := by decide +kernel
theorem dX6_init_0 : decode cX6_init 0 = .ok (.aload_n 0, 1) := by decide +kernel
theorem dX6_init_1 : decode cX6_init 1 = .ok (.invokespecial 3, 3) := by decide +kernel
theorem dX6_init_4 : decode cX6_init 4 = .ok (.return_, 1) := by decide +kernel
theorem dX6_clear_0 : decode cX6_clear 0 = .ok (.aload_n 0, 1) := by decide +kernel
theorem dX6_clear_1 : decode cX6_clear 1 = .ok (.iconst 0, 1) := by decide +kernel
theorem dX6_clear_2 : decode cX6_clear 2 = .ok (.putfield 9, 3) := by decide +kernel
theorem dX6_clear_5 : decode cX6_clear 5 = .ok (.aload_n 0, 1) := by decide +kernel
theorem dX6_clear_6 : decode cX6_clear 6 = .ok (.aconst_null, 1) := by decide +kernel
theorem dX6_clear_7 : decode cX6_clear 7 = .ok (.putfield 15, 3) := by decide +kernel
theorem dX6_clear_10 : decode cX6_clear 10 = .ok (.aload_n 0, 1) := by decide +kernel
theorem dX6_clear_11 : decode cX6_clear 11 = .ok (.aconst_null, 1) := by decide +kernel
theorem dX6_clear_12 : decode cX6_clear 12 = .ok (.putfield 19, 3) := by decide +kernel
theorem dX6_clear_15 : decode cX6_clear 15 = .ok (.return_, 1) := by decide +kernel
theorem dX6_append_0 : decode cX6_append 0 = .ok (.aload_n 1, 1) := by decide +kernel
theorem dX6_append_1 : decode cX6_append 1 = .ok (.ifnonnull 4, 3) := by decide +kernel
theorem dX6_append_4 : decode cX6_append 4 = .ok (.return_, 1) := by decide +kernel
theorem dX6_append_5 : decode cX6_append 5 = .ok (.aload_n 0, 1) := by decide +kernel
theorem dX6_append_6 : decode cX6_append 6 = .ok (.getfield 19, 3) := by decide +kernel
theorem dX6_append_9 : decode cX6_append 9 = .ok (.ifnonnull 11, 3) := by decide +kernel
theorem dX6_append_12 : decode cX6_append 12 = .ok (.aload_n 0, 1) := by decide +kernel
theorem dX6_append_13 : decode cX6_append 13 = .ok (.aload_n 1, 1) := by decide +kernel
theorem dX6_append_14 : decode cX6_append 14 = .ok (.putfield 15, 3) := by decide +kernel
theorem dX6_append_17 : decode cX6_append 17 = .ok (.goto 11, 3) := by decide +kernel
theorem dX6_append_20 : decode cX6_append 20 = .ok (.aload_n 0, 1) := by decide +kernel
theorem dX6_append_21 : decode cX6_append 21 = .ok (.getfield 19, 3) := by decide +kernel
theorem dX6_append_24 : decode cX6_append 24 = .ok (.aload_n 1, 1) := by decide +kernel
theorem dX6_append_25 : decode cX6_append 25 = .ok (.putfield 22, 3) := by decide +kernel
theorem dX6_append_28 : decode cX6_append 28 = .ok (.aload_n 1, 1) := by decide +kernel
theorem dX6_append_29 : decode cX6_append 29 = .ok (.astore_n 2, 1) := by decide +kernel
theorem dX6_append_30 : decode cX6_append 30 = .ok (.aload_n 2, 1) := by decide +kernel
theorem dX6_append_31 : decode cX6_append 31 = .ok (.ifnull 29, 3) := by decide +kernel
theorem dX6_append_34 : decode cX6_append 34 = .ok (.aload_n 0, 1) := by decide +kernel
theorem dX6_append_35 : decode cX6_append 35 = .ok (.dup, 1) := by decide +kernel
theorem dX6_append_36 : decode cX6_append 36 = .ok (.getfield 9, 3) := by decide +kernel
theorem dX6_append_39 : decode cX6_append 39 = .ok (.aload_n 2, 1) := by decide +kernel
theorem dX6_append_40 : decode cX6_append 40 = .ok (.getfield 27, 3) := by decide +kernel
theorem dX6_append_43 : decode cX6_append 43 = .ok (.iadd, 1) := by decide +kernel
theorem dX6_append_44 : decode cX6_append 44 = .ok (.putfield 9, 3) := by decide +kernel
theorem dX6_append_47 : decode cX6_append 47 = .ok (.aload_n 0, 1) := by decide +kernel
theorem dX6_append_48 : decode cX6_append 48 = .ok (.aload_n 2, 1) := by decide +kernel
theorem dX6_append_49 : decode cX6_append 49 = .ok (.putfield 19, 3) := by decide +kernel
theorem dX6_append_52 : decode cX6_append 52 = .ok (.aload_n 2, 1) := by decide +kernel
theorem dX6_append_53 : decode cX6_append 53 = .ok (.getfield 22, 3) := by decide +kernel
theorem dX6_append_56 : decode cX6_append 56 = .ok (.astore_n 2, 1) := by decide +kernel
theorem dX6_append_57 : decode cX6_append 57 = .ok (.goto (-27), 3) := by decide +kernel
theorem dX6_append_60 : decode cX6_append 60 = .ok (.return_, 1) := by decide +kernel
theorem dX6_take_0 : decode cX6_take 0 = .ok (.aload_n 0, 1) := by decide +kernel
theorem dX6_take_1 : decode cX6_take 1 = .ok (.getfield 15, 3) := by decide +kernel
theorem dX6_take_4 : decode cX6_take 4 = .ok (.astore_n 2, 1) := by decide +kernel
theorem dX6_take_5 : decode cX6_take 5 = .ok (.aconst_null, 1) := by decide +kernel
theorem dX6_take_6 : decode cX6_take 6 = .ok (.astore_n 3, 1) := by decide +kernel
theorem dX6_take_7 : decode cX6_take 7 = .ok (.aload_n 0, 1) := by decide +kernel
theorem dX6_take_8 : decode cX6_take 8 = .ok (.getfield 15, 3) := by decide +kernel
theorem dX6_take_11 : decode cX6_take 11 = .ok (.astore 4, 2) := by decide +kernel
theorem dX6_take_13 : decode cX6_take 13 = .ok (.iload_n 1, 1) := by decide +kernel
theorem dX6_take_14 : decode cX6_take 14 = .ok (.istore 5, 2) := by decide +kernel
theorem dX6_take_16 : decode cX6_take 16 = .ok (.aload 4, 2) := by decide +kernel
theorem dX6_take_18 : decode cX6_take 18 = .ok (.ifnull 36, 3) := by decide +kernel
theorem dX6_take_21 : decode cX6_take 21 = .ok (.aload 4, 2) := by decide +kernel
theorem dX6_take_23 : decode cX6_take 23 = .ok (.getfield 27, 3) := by decide +kernel
theorem dX6_take_26 : decode cX6_take 26 = .ok (.iload 5, 2) := by decide +kernel
theorem dX6_take_28 : decode cX6_take 28 = .ok (.if_icmp .gt 26, 3) := by decide +kernel
theorem dX6_take_31 : decode cX6_take 31 = .ok (.iload 5, 2) := by decide +kernel
theorem dX6_take_33 : decode cX6_take 33 = .ok (.aload 4, 2) := by decide +kernel
theorem dX6_take_35 : decode cX6_take 35 = .ok (.getfield 27, 3) := by decide +kernel
theorem dX6_take_38 : decode cX6_take 38 = .ok (.isub, 1) := by decide +kernel
theorem dX6_take_39 : decode cX6_take 39 = .ok (.istore 5, 2) := by decide +kernel
theorem dX6_take_41 : decode cX6_take 41 = .ok (.aload 4, 2) := by decide +kernel
theorem dX6_take_43 : decode cX6_take 43 = .ok (.astore_n 3, 1) := by decide +kernel
theorem dX6_take_44 : decode cX6_take 44 = .ok (.aload 4, 2) := by decide +kernel
theorem dX6_take_46 : decode cX6_take 46 = .ok (.getfield 22, 3) := by decide +kernel
theorem dX6_take_49 : decode cX6_take 49 = .ok (.astore 4, 2) := by decide +kernel
theorem dX6_take_51 : decode cX6_take 51 = .ok (.goto (-35), 3) := by decide +kernel
theorem dX6_take_54 : decode cX6_take 54 = .ok (.aload 4, 2) := by decide +kernel
theorem dX6_take_56 : decode cX6_take 56 = .ok (.ifnull 39, 3) := by decide +kernel
theorem dX6_take_59 : decode cX6_take 59 = .ok (.iload 5, 2) := by decide +kernel
theorem dX6_take_61 : decode cX6_take 61 = .ok (.ifCond .le 34, 3) := by decide +kernel
theorem dX6_take_64 : decode cX6_take 64 = .ok (.aload 4, 2) := by decide +kernel
theorem dX6_take_66 : decode cX6_take 66 = .ok (.iload 5, 2) := by decide +kernel
theorem dX6_take_68 : decode cX6_take 68 = .ok (.invokevirtual 28, 3) := by decide +kernel
theorem dX6_take_71 : decode cX6_take 71 = .ok (.astore 6, 2) := by decide +kernel
theorem dX6_take_73 : decode cX6_take 73 = .ok (.iconst 0, 1) := by decide +kernel
theorem dX6_take_74 : decode cX6_take 74 = .ok (.istore 5, 2) := by decide +kernel
theorem dX6_take_76 : decode cX6_take 76 = .ok (.aload_n 3, 1) := by decide +kernel
theorem dX6_take_77 : decode cX6_take 77 = .ok (.ifnonnull 9, 3) := by decide +kernel
theorem dX6_take_80 : decode cX6_take 80 = .ok (.aload 6, 2) := by decide +kernel
theorem dX6_take_82 : decode cX6_take 82 = .ok (.astore_n 2, 1) := by decide +kernel
theorem dX6_take_83 : decode cX6_take 83 = .ok (.goto 9, 3) := by decide +kernel
theorem dX6_take_86 : decode cX6_take 86 = .ok (.aload_n 3, 1) := by decide +kernel
theorem dX6_take_87 : decode cX6_take 87 = .ok (.aload 6, 2) := by decide +kernel
theorem dX6_take_89 : decode cX6_take 89 = .ok (.putfield 22, 3) := by decide +kernel
theorem dX6_take_92 : decode cX6_take 92 = .ok (.aload 6, 2) := by decide +kernel
theorem dX6_take_94 : decode cX6_take 94 = .ok (.astore_n 3, 1) := by decide +kernel
theorem dX6_take_95 : decode cX6_take 95 = .ok (.aload_n 3, 1) := by decide +kernel
theorem dX6_take_96 : decode cX6_take 96 = .ok (.ifnonnull 5, 3) := by decide +kernel
theorem dX6_take_99 : decode cX6_take 99 = .ok (.aconst_null, 1) := by decide +kernel
theorem dX6_take_100 : decode cX6_take 100 = .ok (.areturn, 1) := by decide +kernel
theorem dX6_take_101 : decode cX6_take 101 = .ok (.aload_n 3, 1) := by decide +kernel
theorem dX6_take_102 : decode cX6_take 102 = .ok (.aconst_null, 1) := by decide +kernel
theorem dX6_take_103 : decode cX6_take 103 = .ok (.putfield 22, 3) := by decide +kernel
theorem dX6_take_106 : decode cX6_take 106 = .ok (.aload_n 0, 1) := by decide +kernel
theorem dX6_take_107 : decode cX6_take 107 = .ok (.dup, 1) := by decide +kernel
theorem dX6_take_108 : decode cX6_take 108 = .ok (.getfield 9, 3) := by decide +kernel
theorem dX6_take_111 : decode cX6_take 111 = .ok (.iload_n 1, 1) := by decide +kernel
theorem dX6_take_112 : decode cX6_take 112 = .ok (.iload 5, 2) := by decide +kernel
theorem dX6_take_114 : decode cX6_take 114 = .ok (.isub, 1) := by decide +kernel
theorem dX6_take_115 : decode cX6_take 115 = .ok (.isub, 1) := by decide +kernel
theorem dX6_take_116 : decode cX6_take 116 = .ok (.putfield 9, 3) := by decide +kernel
theorem dX6_take_119 : decode cX6_take 119 = .ok (.aload_n 0, 1) := by decide +kernel
theorem dX6_take_120 : decode cX6_take 120 = .ok (.aload 4, 2) := by decide +kernel
theorem dX6_take_122 : decode cX6_take 122 = .ok (.putfield 15, 3) := by decide +kernel
theorem dX6_take_125 : decode cX6_take 125 = .ok (.aload_n 0, 1) := by decide +kernel
theorem dX6_take_126 : decode cX6_take 126 = .ok (.aload 4, 2) := by decide +kernel
theorem dX6_take_128 : decode cX6_take 128 = .ok (.ifnonnull 7, 3) := by decide +kernel
theorem dX6_take_131 : decode cX6_take 131 = .ok (.aconst_null, 1) := by decide +kernel
theorem dX6_take_132 : decode cX6_take 132 = .ok (.goto 7, 3) := by decide +kernel
theorem dX6_take_135 : decode cX6_take 135 = .ok (.aload_n 0, 1) := by decide +kernel
theorem dX6_take_136 : decode cX6_take 136 = .ok (.getfield 19, 3) := by decide +kernel
theorem dX6_take_139 : decode cX6_take 139 = .ok (.putfield 19, 3) := by decide +kernel
theorem dX6_take_142 : decode cX6_take 142 = .ok (.aload_n 2, 1) := by decide +kernel
theorem dX6_take_143 : decode cX6_take 143 = .ok (.areturn, 1) := by decide +kernel
theorem dX6_frontYear_0 : decode cX6_frontYear 0 = .ok (.aload_n 0, 1) := by decide +kernel
theorem dX6_frontYear_1 : decode cX6_frontYear 1 = .ok (.getfield 15, 3) := by decide +kernel
theorem dX6_frontYear_4 : decode cX6_frontYear 4 = .ok (.ifnonnull 7, 3) := by decide +kernel
theorem dX6_frontYear_7 : decode cX6_frontYear 7 = .ok (.iconst (-1), 1) := by decide +kernel
theorem dX6_frontYear_8 : decode cX6_frontYear 8 = .ok (.goto 10, 3) := by decide +kernel
theorem dX6_frontYear_11 : decode cX6_frontYear 11 = .ok (.aload_n 0, 1) := by decide +kernel
theorem dX6_frontYear_12 : decode cX6_frontYear 12 = .ok (.getfield 15, 3) := by decide +kernel
theorem dX6_frontYear_15 : decode cX6_frontYear 15 = .ok (.getfield 32, 3) := by decide +kernel
theorem dX6_frontYear_18 : decode cX6_frontYear 18 = .ok (.ireturn, 1) := by decide +kernel
theorem dX6_nitrate_0 : decode cX6_nitrate 0 = .ok (.iconst 0, 1) := by decide +kernel
theorem dX6_nitrate_1 : decode cX6_nitrate 1 = .ok (.istore_n 1, 1) := by decide +kernel
theorem dX6_nitrate_2 : decode cX6_nitrate 2 = .ok (.aload_n 0, 1) := by decide +kernel
theorem dX6_nitrate_3 : decode cX6_nitrate 3 = .ok (.getfield 15, 3) := by decide +kernel
theorem dX6_nitrate_6 : decode cX6_nitrate 6 = .ok (.astore_n 2, 1) := by decide +kernel
theorem dX6_nitrate_7 : decode cX6_nitrate 7 = .ok (.aload_n 2, 1) := by decide +kernel
theorem dX6_nitrate_8 : decode cX6_nitrate 8 = .ok (.ifnull 23, 3) := by decide +kernel
theorem dX6_nitrate_11 : decode cX6_nitrate 11 = .ok (.iload_n 1, 1) := by decide +kernel
theorem dX6_nitrate_12 : decode cX6_nitrate 12 = .ok (.aload_n 2, 1) := by decide +kernel
theorem dX6_nitrate_13 : decode cX6_nitrate 13 = .ok (.getfield 27, 3) := by decide +kernel
theorem dX6_nitrate_16 : decode cX6_nitrate 16 = .ok (.aload_n 2, 1) := by decide +kernel
theorem dX6_nitrate_17 : decode cX6_nitrate 17 = .ok (.getfield 35, 3) := by decide +kernel
theorem dX6_nitrate_20 : decode cX6_nitrate 20 = .ok (.imul, 1) := by decide +kernel
theorem dX6_nitrate_21 : decode cX6_nitrate 21 = .ok (.iadd, 1) := by decide +kernel
theorem dX6_nitrate_22 : decode cX6_nitrate 22 = .ok (.istore_n 1, 1) := by decide +kernel
theorem dX6_nitrate_23 : decode cX6_nitrate 23 = .ok (.aload_n 2, 1) := by decide +kernel
theorem dX6_nitrate_24 : decode cX6_nitrate 24 = .ok (.getfield 22, 3) := by decide +kernel
theorem dX6_nitrate_27 : decode cX6_nitrate 27 = .ok (.astore_n 2, 1) := by decide +kernel
theorem dX6_nitrate_28 : decode cX6_nitrate 28 = .ok (.goto (-21), 3) := by decide +kernel
theorem dX6_nitrate_31 : decode cX6_nitrate 31 = .ok (.iload_n 1, 1) := by decide +kernel
theorem dX6_nitrate_32 : decode cX6_nitrate 32 = .ok (.ireturn, 1) := by decide +kernel
theorem dX6_compounds_0 : decode cX6_compounds 0 = .ok (.iconst 0, 1) := by decide +kernel
theorem dX6_compounds_1 : decode cX6_compounds 1 = .ok (.istore_n 1, 1) := by decide +kernel
theorem dX6_compounds_2 : decode cX6_compounds 2 = .ok (.aload_n 0, 1) := by decide +kernel
theorem dX6_compounds_3 : decode cX6_compounds 3 = .ok (.getfield 15, 3) := by decide +kernel
theorem dX6_compounds_6 : decode cX6_compounds 6 = .ok (.astore_n 2, 1) := by decide +kernel
theorem dX6_compounds_7 : decode cX6_compounds 7 = .ok (.aload_n 2, 1) := by decide +kernel
theorem dX6_compounds_8 : decode cX6_compounds 8 = .ok (.ifnull 18, 3) := by decide +kernel
theorem dX6_compounds_11 : decode cX6_compounds 11 = .ok (.iload_n 1, 1) := by decide +kernel
theorem dX6_compounds_12 : decode cX6_compounds 12 = .ok (.aload_n 2, 1) := by decide +kernel
theorem dX6_compounds_13 : decode cX6_compounds 13 = .ok (.getfield 38, 3) := by decide +kernel
theorem dX6_compounds_16 : decode cX6_compounds 16 = .ok (.ior, 1) := by decide +kernel
theorem dX6_compounds_17 : decode cX6_compounds 17 = .ok (.istore_n 1, 1) := by decide +kernel
theorem dX6_compounds_18 : decode cX6_compounds 18 = .ok (.aload_n 2, 1) := by decide +kernel
theorem dX6_compounds_19 : decode cX6_compounds 19 = .ok (.getfield 22, 3) := by decide +kernel
theorem dX6_compounds_22 : decode cX6_compounds 22 = .ok (.astore_n 2, 1) := by decide +kernel
theorem dX6_compounds_23 : decode cX6_compounds 23 = .ok (.goto (-16), 3) := by decide +kernel
theorem dX6_compounds_26 : decode cX6_compounds 26 = .ok (.iload_n 1, 1) := by decide +kernel
theorem dX6_compounds_27 : decode cX6_compounds 27 = .ok (.ireturn, 1) := by decide +kernel
theorem dX6_oldest_0 : decode cX6_oldest 0 = .ok (.aload_n 0, 1) := by decide +kernel
theorem dX6_oldest_1 : decode cX6_oldest 1 = .ok (.invokevirtual 41, 3) := by decide +kernel
theorem dX6_oldest_4 : decode cX6_oldest 4 = .ok (.istore_n 1, 1) := by decide +kernel
theorem dX6_oldest_5 : decode cX6_oldest 5 = .ok (.aload_n 0, 1) := by decide +kernel
theorem dX6_oldest_6 : decode cX6_oldest 6 = .ok (.getfield 15, 3) := by decide +kernel
theorem dX6_oldest_9 : decode cX6_oldest 9 = .ok (.astore_n 2, 1) := by decide +kernel
theorem dX6_oldest_10 : decode cX6_oldest 10 = .ok (.aload_n 2, 1) := by decide +kernel
theorem dX6_oldest_11 : decode cX6_oldest 11 = .ok (.ifnull 20, 3) := by decide +kernel
theorem dX6_oldest_14 : decode cX6_oldest 14 = .ok (.iload_n 1, 1) := by decide +kernel
theorem dX6_oldest_15 : decode cX6_oldest 15 = .ok (.aload_n 2, 1) := by decide +kernel
theorem dX6_oldest_16 : decode cX6_oldest 16 = .ok (.getfield 32, 3) := by decide +kernel
theorem dX6_oldest_19 : decode cX6_oldest 19 = .ok (.invokestatic 45, 3) := by decide +kernel
theorem dX6_oldest_22 : decode cX6_oldest 22 = .ok (.istore_n 1, 1) := by decide +kernel
theorem dX6_oldest_23 : decode cX6_oldest 23 = .ok (.aload_n 2, 1) := by decide +kernel
theorem dX6_oldest_24 : decode cX6_oldest 24 = .ok (.getfield 22, 3) := by decide +kernel
theorem dX6_oldest_27 : decode cX6_oldest 27 = .ok (.astore_n 2, 1) := by decide +kernel
theorem dX6_oldest_28 : decode cX6_oldest 28 = .ok (.goto (-18), 3) := by decide +kernel
theorem dX6_oldest_31 : decode cX6_oldest 31 = .ok (.iload_n 1, 1) := by decide +kernel
theorem dX6_oldest_32 : decode cX6_oldest 32 = .ok (.ireturn, 1) := by decide +kernel
theorem dX6_youngest_0 : decode cX6_youngest 0 = .ok (.aload_n 0, 1) := by decide +kernel
theorem dX6_youngest_1 : decode cX6_youngest 1 = .ok (.invokevirtual 41, 3) := by decide +kernel
theorem dX6_youngest_4 : decode cX6_youngest 4 = .ok (.istore_n 1, 1) := by decide +kernel
theorem dX6_youngest_5 : decode cX6_youngest 5 = .ok (.aload_n 0, 1) := by decide +kernel
theorem dX6_youngest_6 : decode cX6_youngest 6 = .ok (.getfield 15, 3) := by decide +kernel
theorem dX6_youngest_9 : decode cX6_youngest 9 = .ok (.astore_n 2, 1) := by decide +kernel
theorem dX6_youngest_10 : decode cX6_youngest 10 = .ok (.aload_n 2, 1) := by decide +kernel
theorem dX6_youngest_11 : decode cX6_youngest 11 = .ok (.ifnull 20, 3) := by decide +kernel
theorem dX6_youngest_14 : decode cX6_youngest 14 = .ok (.iload_n 1, 1) := by decide +kernel
theorem dX6_youngest_15 : decode cX6_youngest 15 = .ok (.aload_n 2, 1) := by decide +kernel
theorem dX6_youngest_16 : decode cX6_youngest 16 = .ok (.getfield 32, 3) := by decide +kernel
theorem dX6_youngest_19 : decode cX6_youngest 19 = .ok (.invokestatic 51, 3) := by decide +kernel
theorem dX6_youngest_22 : decode cX6_youngest 22 = .ok (.istore_n 1, 1) := by decide +kernel
theorem dX6_youngest_23 : decode cX6_youngest 23 = .ok (.aload_n 2, 1) := by decide +kernel
theorem dX6_youngest_24 : decode cX6_youngest 24 = .ok (.getfield 22, 3) := by decide +kernel
theorem dX6_youngest_27 : decode cX6_youngest 27 = .ok (.astore_n 2, 1) := by decide +kernel
theorem dX6_youngest_28 : decode cX6_youngest 28 = .ok (.goto (-18), 3) := by decide +kernel
theorem dX6_youngest_31 : decode cX6_youngest 31 = .ok (.iload_n 1, 1) := by decide +kernel
theorem dX6_youngest_32 : decode cX6_youngest 32 = .ok (.ireturn, 1) := by decide +kernel
theorem dX6_agesIn_0 : decode cX6_agesIn 0 = .ok (.iconst 0, 1) := by decide +kernel
theorem dX6_agesIn_1 : decode cX6_agesIn 1 = .ok (.istore_n 2, 1) := by decide +kernel
theorem dX6_agesIn_2 : decode cX6_agesIn 2 = .ok (.aload_n 0, 1) := by decide +kernel
theorem dX6_agesIn_3 : decode cX6_agesIn 3 = .ok (.getfield 15, 3) := by decide +kernel
theorem dX6_agesIn_6 : decode cX6_agesIn 6 = .ok (.astore_n 3, 1) := by decide +kernel
theorem dX6_agesIn_7 : decode cX6_agesIn 7 = .ok (.aload_n 3, 1) := by decide +kernel
theorem dX6_agesIn_8 : decode cX6_agesIn 8 = .ok (.ifnull 25, 3) := by decide +kernel
theorem dX6_agesIn_11 : decode cX6_agesIn 11 = .ok (.iload_n 2, 1) := by decide +kernel
theorem dX6_agesIn_12 : decode cX6_agesIn 12 = .ok (.aload_n 3, 1) := by decide +kernel
theorem dX6_agesIn_13 : decode cX6_agesIn 13 = .ok (.getfield 27, 3) := by decide +kernel
theorem dX6_agesIn_16 : decode cX6_agesIn 16 = .ok (.iload_n 1, 1) := by decide +kernel
theorem dX6_agesIn_17 : decode cX6_agesIn 17 = .ok (.aload_n 3, 1) := by decide +kernel
theorem dX6_agesIn_18 : decode cX6_agesIn 18 = .ok (.getfield 32, 3) := by decide +kernel
theorem dX6_agesIn_21 : decode cX6_agesIn 21 = .ok (.isub, 1) := by decide +kernel
theorem dX6_agesIn_22 : decode cX6_agesIn 22 = .ok (.imul, 1) := by decide +kernel
theorem dX6_agesIn_23 : decode cX6_agesIn 23 = .ok (.iadd, 1) := by decide +kernel
theorem dX6_agesIn_24 : decode cX6_agesIn 24 = .ok (.istore_n 2, 1) := by decide +kernel
theorem dX6_agesIn_25 : decode cX6_agesIn 25 = .ok (.aload_n 3, 1) := by decide +kernel
theorem dX6_agesIn_26 : decode cX6_agesIn 26 = .ok (.getfield 22, 3) := by decide +kernel
theorem dX6_agesIn_29 : decode cX6_agesIn 29 = .ok (.astore_n 3, 1) := by decide +kernel
theorem dX6_agesIn_30 : decode cX6_agesIn 30 = .ok (.goto (-23), 3) := by decide +kernel
theorem dX6_agesIn_33 : decode cX6_agesIn 33 = .ok (.iload_n 2, 1) := by decide +kernel
theorem dX6_agesIn_34 : decode cX6_agesIn 34 = .ok (.ireturn, 1) := by decide +kernel
theorem dX6_unitsThatFell_0 : decode cX6_unitsThatFell 0 = .ok (.iconst 0, 1) := by decide +kernel
theorem dX6_unitsThatFell_1 : decode cX6_unitsThatFell 1 = .ok (.istore_n 3, 1) := by decide +kernel
theorem dX6_unitsThatFell_2 : decode cX6_unitsThatFell 2 = .ok (.aload_n 0, 1) := by decide +kernel
theorem dX6_unitsThatFell_3 : decode cX6_unitsThatFell 3 = .ok (.getfield 15, 3) := by decide +kernel
theorem dX6_unitsThatFell_6 : decode cX6_unitsThatFell 6 = .ok (.astore 4, 2) := by decide +kernel
theorem dX6_unitsThatFell_8 : decode cX6_unitsThatFell 8 = .ok (.aload 4, 2) := by decide +kernel
theorem dX6_unitsThatFell_10 : decode cX6_unitsThatFell 10 = .ok (.ifnull 39, 3) := by decide +kernel
theorem dX6_unitsThatFell_13 : decode cX6_unitsThatFell 13 = .ok (.aload 4, 2) := by decide +kernel
theorem dX6_unitsThatFell_15 : decode cX6_unitsThatFell 15 = .ok (.getfield 54, 3) := by decide +kernel
theorem dX6_unitsThatFell_18 : decode cX6_unitsThatFell 18 = .ok (.iload_n 1, 1) := by decide +kernel
theorem dX6_unitsThatFell_19 : decode cX6_unitsThatFell 19 = .ok (.if_icmp .ne 20, 3) := by decide +kernel
theorem dX6_unitsThatFell_22 : decode cX6_unitsThatFell 22 = .ok (.aload 4, 2) := by decide +kernel
theorem dX6_unitsThatFell_24 : decode cX6_unitsThatFell 24 = .ok (.getfield 32, 3) := by decide +kernel
theorem dX6_unitsThatFell_27 : decode cX6_unitsThatFell 27 = .ok (.iload_n 2, 1) := by decide +kernel
theorem dX6_unitsThatFell_28 : decode cX6_unitsThatFell 28 = .ok (.if_icmp .ne 11, 3) := by decide +kernel
theorem dX6_unitsThatFell_31 : decode cX6_unitsThatFell 31 = .ok (.iload_n 3, 1) := by decide +kernel
theorem dX6_unitsThatFell_32 : decode cX6_unitsThatFell 32 = .ok (.aload 4, 2) := by decide +kernel
theorem dX6_unitsThatFell_34 : decode cX6_unitsThatFell 34 = .ok (.getfield 27, 3) := by decide +kernel
theorem dX6_unitsThatFell_37 : decode cX6_unitsThatFell 37 = .ok (.iadd, 1) := by decide +kernel
theorem dX6_unitsThatFell_38 : decode cX6_unitsThatFell 38 = .ok (.istore_n 3, 1) := by decide +kernel
theorem dX6_unitsThatFell_39 : decode cX6_unitsThatFell 39 = .ok (.aload 4, 2) := by decide +kernel
theorem dX6_unitsThatFell_41 : decode cX6_unitsThatFell 41 = .ok (.getfield 22, 3) := by decide +kernel
theorem dX6_unitsThatFell_44 : decode cX6_unitsThatFell 44 = .ok (.astore 4, 2) := by decide +kernel
theorem dX6_unitsThatFell_46 : decode cX6_unitsThatFell 46 = .ok (.goto (-38), 3) := by decide +kernel
theorem dX6_unitsThatFell_49 : decode cX6_unitsThatFell 49 = .ok (.iload_n 3, 1) := by decide +kernel
theorem dX6_unitsThatFell_50 : decode cX6_unitsThatFell 50 = .ok (.ireturn, 1) := by decide +kernel
theorem dX6_earliestWith_0 : decode cX6_earliestWith 0 = .ok (.aconst_null, 1) := by decide +kernel
theorem dX6_earliestWith_1 : decode cX6_earliestWith 1 = .ok (.astore_n 2, 1) := by decide +kernel
theorem dX6_earliestWith_2 : decode cX6_earliestWith 2 = .ok (.aload_n 0, 1) := by decide +kernel
theorem dX6_earliestWith_3 : decode cX6_earliestWith 3 = .ok (.getfield 15, 3) := by decide +kernel
theorem dX6_earliestWith_6 : decode cX6_earliestWith 6 = .ok (.astore_n 3, 1) := by decide +kernel
theorem dX6_earliestWith_7 : decode cX6_earliestWith 7 = .ok (.aload_n 3, 1) := by decide +kernel
theorem dX6_earliestWith_8 : decode cX6_earliestWith 8 = .ok (.ifnull 34, 3) := by decide +kernel
theorem dX6_earliestWith_11 : decode cX6_earliestWith 11 = .ok (.aload_n 3, 1) := by decide +kernel
theorem dX6_earliestWith_12 : decode cX6_earliestWith 12 = .ok (.getfield 38, 3) := by decide +kernel
theorem dX6_earliestWith_15 : decode cX6_earliestWith 15 = .ok (.iload_n 1, 1) := by decide +kernel
theorem dX6_earliestWith_16 : decode cX6_earliestWith 16 = .ok (.iand, 1) := by decide +kernel
theorem dX6_earliestWith_17 : decode cX6_earliestWith 17 = .ok (.ifCond .eq 17, 3) := by decide +kernel
theorem dX6_earliestWith_20 : decode cX6_earliestWith 20 = .ok (.aload_n 2, 1) := by decide +kernel
theorem dX6_earliestWith_21 : decode cX6_earliestWith 21 = .ok (.ifnull 11, 3) := by decide +kernel
theorem dX6_earliestWith_24 : decode cX6_earliestWith 24 = .ok (.aload_n 3, 1) := by decide +kernel
theorem dX6_earliestWith_25 : decode cX6_earliestWith 25 = .ok (.aload_n 2, 1) := by decide +kernel
theorem dX6_earliestWith_26 : decode cX6_earliestWith 26 = .ok (.invokestatic 57, 3) := by decide +kernel
theorem dX6_earliestWith_29 : decode cX6_earliestWith 29 = .ok (.ifCond .eq 5, 3) := by decide +kernel
theorem dX6_earliestWith_32 : decode cX6_earliestWith 32 = .ok (.aload_n 3, 1) := by decide +kernel
theorem dX6_earliestWith_33 : decode cX6_earliestWith 33 = .ok (.astore_n 2, 1) := by decide +kernel
theorem dX6_earliestWith_34 : decode cX6_earliestWith 34 = .ok (.aload_n 3, 1) := by decide +kernel
theorem dX6_earliestWith_35 : decode cX6_earliestWith 35 = .ok (.getfield 22, 3) := by decide +kernel
theorem dX6_earliestWith_38 : decode cX6_earliestWith 38 = .ok (.astore_n 3, 1) := by decide +kernel
theorem dX6_earliestWith_39 : decode cX6_earliestWith 39 = .ok (.goto (-32), 3) := by decide +kernel
theorem dX6_earliestWith_42 : decode cX6_earliestWith 42 = .ok (.aload_n 2, 1) := by decide +kernel
theorem dX6_earliestWith_43 : decode cX6_earliestWith 43 = .ok (.areturn, 1) := by decide +kernel
theorem dX6_isEarlier_0 : decode cX6_isEarlier 0 = .ok (.aload_n 0, 1) := by decide +kernel
theorem dX6_isEarlier_1 : decode cX6_isEarlier 1 = .ok (.getfield 32, 3) := by decide +kernel
theorem dX6_isEarlier_4 : decode cX6_isEarlier 4 = .ok (.aload_n 1, 1) := by decide +kernel
theorem dX6_isEarlier_5 : decode cX6_isEarlier 5 = .ok (.getfield 32, 3) := by decide +kernel
theorem dX6_isEarlier_8 : decode cX6_isEarlier 8 = .ok (.if_icmp .lt 25, 3) := by decide +kernel
theorem dX6_isEarlier_11 : decode cX6_isEarlier 11 = .ok (.aload_n 0, 1) := by decide +kernel
theorem dX6_isEarlier_12 : decode cX6_isEarlier 12 = .ok (.getfield 32, 3) := by decide +kernel
theorem dX6_isEarlier_15 : decode cX6_isEarlier 15 = .ok (.aload_n 1, 1) := by decide +kernel
theorem dX6_isEarlier_16 : decode cX6_isEarlier 16 = .ok (.getfield 32, 3) := by decide +kernel
theorem dX6_isEarlier_19 : decode cX6_isEarlier 19 = .ok (.if_icmp .ne 18, 3) := by decide +kernel
theorem dX6_isEarlier_22 : decode cX6_isEarlier 22 = .ok (.aload_n 0, 1) := by decide +kernel
theorem dX6_isEarlier_23 : decode cX6_isEarlier 23 = .ok (.getfield 54, 3) := by decide +kernel
theorem dX6_isEarlier_26 : decode cX6_isEarlier 26 = .ok (.aload_n 1, 1) := by decide +kernel
theorem dX6_isEarlier_27 : decode cX6_isEarlier 27 = .ok (.getfield 54, 3) := by decide +kernel
theorem dX6_isEarlier_30 : decode cX6_isEarlier 30 = .ok (.if_icmp .ge 7, 3) := by decide +kernel
theorem dX6_isEarlier_33 : decode cX6_isEarlier 33 = .ok (.iconst 1, 1) := by decide +kernel
theorem dX6_isEarlier_34 : decode cX6_isEarlier 34 = .ok (.goto 4, 3) := by decide +kernel
theorem dX6_isEarlier_37 : decode cX6_isEarlier 37 = .ok (.iconst 0, 1) := by decide +kernel
theorem dX6_isEarlier_38 : decode cX6_isEarlier 38 = .ok (.ireturn, 1) := by decide +kernel
theorem dX7_init_0 : decode cX7_init 0 = .ok (.aload_n 0, 1) := by decide +kernel
theorem dX7_init_1 : decode cX7_init 1 = .ok (.invokespecial 1, 3) := by decide +kernel
theorem dX7_init_4 : decode cX7_init 4 = .ok (.return_, 1) := by decide +kernel
theorem dX7_add_0 : decode cX7_add 0 = .ok (.aload_n 1, 1) := by decide +kernel
theorem dX7_add_1 : decode cX7_add 1 = .ok (.aconst_null, 1) := by decide +kernel
theorem dX7_add_2 : decode cX7_add 2 = .ok (.putfield 7, 3) := by decide +kernel
theorem dX7_add_5 : decode cX7_add 5 = .ok (.aload_n 0, 1) := by decide +kernel
theorem dX7_add_6 : decode cX7_add 6 = .ok (.getfield 13, 3) := by decide +kernel
theorem dX7_add_9 : decode cX7_add 9 = .ok (.ifnonnull 11, 3) := by decide +kernel
theorem dX7_add_12 : decode cX7_add 12 = .ok (.aload_n 0, 1) := by decide +kernel
theorem dX7_add_13 : decode cX7_add 13 = .ok (.aload_n 1, 1) := by decide +kernel
theorem dX7_add_14 : decode cX7_add 14 = .ok (.putfield 18, 3) := by decide +kernel
theorem dX7_add_17 : decode cX7_add 17 = .ok (.goto 11, 3) := by decide +kernel
theorem dX7_add_20 : decode cX7_add 20 = .ok (.aload_n 0, 1) := by decide +kernel
theorem dX7_add_21 : decode cX7_add 21 = .ok (.getfield 13, 3) := by decide +kernel
theorem dX7_add_24 : decode cX7_add 24 = .ok (.aload_n 1, 1) := by decide +kernel
theorem dX7_add_25 : decode cX7_add 25 = .ok (.putfield 7, 3) := by decide +kernel
theorem dX7_add_28 : decode cX7_add 28 = .ok (.aload_n 0, 1) := by decide +kernel
theorem dX7_add_29 : decode cX7_add 29 = .ok (.aload_n 1, 1) := by decide +kernel
theorem dX7_add_30 : decode cX7_add 30 = .ok (.putfield 13, 3) := by decide +kernel
theorem dX7_add_33 : decode cX7_add 33 = .ok (.return_, 1) := by decide +kernel
theorem dX7_startAt_0 : decode cX7_startAt 0 = .ok (.aload_n 0, 1) := by decide +kernel
theorem dX7_startAt_1 : decode cX7_startAt 1 = .ok (.aload_n 1, 1) := by decide +kernel
theorem dX7_startAt_2 : decode cX7_startAt 2 = .ok (.putfield 18, 3) := by decide +kernel
theorem dX7_startAt_5 : decode cX7_startAt 5 = .ok (.aload_n 1, 1) := by decide +kernel
theorem dX7_startAt_6 : decode cX7_startAt 6 = .ok (.ifnonnull 11, 3) := by decide +kernel
theorem dX7_startAt_9 : decode cX7_startAt 9 = .ok (.aload_n 0, 1) := by decide +kernel
theorem dX7_startAt_10 : decode cX7_startAt 10 = .ok (.aconst_null, 1) := by decide +kernel
theorem dX7_startAt_11 : decode cX7_startAt 11 = .ok (.putfield 13, 3) := by decide +kernel
theorem dX7_startAt_14 : decode cX7_startAt 14 = .ok (.goto 15, 3) := by decide +kernel
theorem dX7_startAt_17 : decode cX7_startAt 17 = .ok (.aload_n 1, 1) := by decide +kernel
theorem dX7_startAt_18 : decode cX7_startAt 18 = .ok (.getfield 7, 3) := by decide +kernel
theorem dX7_startAt_21 : decode cX7_startAt 21 = .ok (.ifnonnull 8, 3) := by decide +kernel
theorem dX7_startAt_24 : decode cX7_startAt 24 = .ok (.aload_n 0, 1) := by decide +kernel
theorem dX7_startAt_25 : decode cX7_startAt 25 = .ok (.aload_n 1, 1) := by decide +kernel
theorem dX7_startAt_26 : decode cX7_startAt 26 = .ok (.putfield 13, 3) := by decide +kernel
theorem dX7_startAt_29 : decode cX7_startAt 29 = .ok (.return_, 1) := by decide +kernel
theorem dX8_init_0 : decode cX8_init 0 = .ok (.aload_n 0, 1) := by decide +kernel
theorem dX8_init_1 : decode cX8_init 1 = .ok (.invokespecial 1, 3) := by decide +kernel
theorem dX8_init_4 : decode cX8_init 4 = .ok (.aload_n 0, 1) := by decide +kernel
theorem dX8_init_5 : decode cX8_init 5 = .ok (.aload_n 1, 1) := by decide +kernel
theorem dX8_init_6 : decode cX8_init 6 = .ok (.putfield 7, 3) := by decide +kernel
theorem dX8_init_9 : decode cX8_init 9 = .ok (.aload_n 0, 1) := by decide +kernel
theorem dX8_init_10 : decode cX8_init 10 = .ok (.iload_n 2, 1) := by decide +kernel
theorem dX8_init_11 : decode cX8_init 11 = .ok (.putfield 13, 3) := by decide +kernel
theorem dX8_init_14 : decode cX8_init 14 = .ok (.return_, 1) := by decide +kernel
theorem dX9_init_0 : decode cX9_init 0 = .ok (.aload_n 0, 1) := by decide +kernel
theorem dX9_init_1 : decode cX9_init 1 = .ok (.invokespecial 1, 3) := by decide +kernel
theorem dX9_init_4 : decode cX9_init 4 = .ok (.aload_n 0, 1) := by decide +kernel
theorem dX9_init_5 : decode cX9_init 5 = .ok (.bipush 10, 2) := by decide +kernel
theorem dX9_init_7 : decode cX9_init 7 = .ok (.anewarray 9, 3) := by decide +kernel
theorem dX9_init_10 : decode cX9_init 10 = .ok (.putfield 11, 3) := by decide +kernel
theorem dX9_init_13 : decode cX9_init 13 = .ok (.aconst_null, 1) := by decide +kernel
theorem dX9_init_14 : decode cX9_init 14 = .ok (.astore_n 1, 1) := by decide +kernel
theorem dX9_init_15 : decode cX9_init 15 = .ok (.iconst 0, 1) := by decide +kernel
theorem dX9_init_16 : decode cX9_init 16 = .ok (.istore_n 2, 1) := by decide +kernel
theorem dX9_init_17 : decode cX9_init 17 = .ok (.iload_n 2, 1) := by decide +kernel
theorem dX9_init_18 : decode cX9_init 18 = .ok (.bipush 10, 2) := by decide +kernel
theorem dX9_init_20 : decode cX9_init 20 = .ok (.if_icmp .ge 26, 3) := by decide +kernel
theorem dX9_init_23 : decode cX9_init 23 = .ok (.new 9, 3) := by decide +kernel
theorem dX9_init_26 : decode cX9_init 26 = .ok (.dup, 1) := by decide +kernel
theorem dX9_init_27 : decode cX9_init 27 = .ok (.iload_n 2, 1) := by decide +kernel
theorem dX9_init_28 : decode cX9_init 28 = .ok (.aload_n 1, 1) := by decide +kernel
theorem dX9_init_29 : decode cX9_init 29 = .ok (.invokespecial 15, 3) := by decide +kernel
theorem dX9_init_32 : decode cX9_init 32 = .ok (.astore_n 1, 1) := by decide +kernel
theorem dX9_init_33 : decode cX9_init 33 = .ok (.aload_n 0, 1) := by decide +kernel
theorem dX9_init_34 : decode cX9_init 34 = .ok (.getfield 11, 3) := by decide +kernel
theorem dX9_init_37 : decode cX9_init 37 = .ok (.iload_n 2, 1) := by decide +kernel
theorem dX9_init_38 : decode cX9_init 38 = .ok (.aload_n 1, 1) := by decide +kernel
theorem dX9_init_39 : decode cX9_init 39 = .ok (.aastore, 1) := by decide +kernel
theorem dX9_init_40 : decode cX9_init 40 = .ok (.iinc 2 1, 3) := by decide +kernel
theorem dX9_init_43 : decode cX9_init 43 = .ok (.goto (-26), 3) := by decide +kernel
theorem dX9_init_46 : decode cX9_init 46 = .ok (.aload_n 0, 1) := by decide +kernel
theorem dX9_init_47 : decode cX9_init 47 = .ok (.aload_n 0, 1) := by decide +kernel
theorem dX9_init_48 : decode cX9_init 48 = .ok (.getfield 11, 3) := by decide +kernel
theorem dX9_init_51 : decode cX9_init 51 = .ok (.iconst 0, 1) := by decide +kernel
theorem dX9_init_52 : decode cX9_init 52 = .ok (.aaload, 1) := by decide +kernel
theorem dX9_init_53 : decode cX9_init 53 = .ok (.putfield 18, 3) := by decide +kernel
theorem dX9_init_56 : decode cX9_init 56 = .ok (.aload_n 0, 1) := by decide +kernel
theorem dX9_init_57 : decode cX9_init 57 = .ok (.bipush 6, 2) := by decide +kernel
theorem dX9_init_59 : decode cX9_init 59 = .ok (.anewarray 22, 3) := by decide +kernel
theorem dX9_init_62 : decode cX9_init 62 = .ok (.putfield 24, 3) := by decide +kernel
theorem dX9_init_65 : decode cX9_init 65 = .ok (.aload_n 0, 1) := by decide +kernel
theorem dX9_init_66 : decode cX9_init 66 = .ok (.bipush 40, 2) := by decide +kernel
theorem dX9_init_68 : decode cX9_init 68 = .ok (.anewarray 28, 3) := by decide +kernel
theorem dX9_init_71 : decode cX9_init 71 = .ok (.putfield 30, 3) := by decide +kernel
theorem dX9_init_74 : decode cX9_init 74 = .ok (.aload_n 0, 1) := by decide +kernel
theorem dX9_init_75 : decode cX9_init 75 = .ok (.new 34, 3) := by decide +kernel
theorem dX9_init_78 : decode cX9_init 78 = .ok (.dup, 1) := by decide +kernel
theorem dX9_init_79 : decode cX9_init 79 = .ok (.invokespecial 36, 3) := by decide +kernel
theorem dX9_init_82 : decode cX9_init 82 = .ok (.putfield 37, 3) := by decide +kernel
theorem dX9_init_85 : decode cX9_init 85 = .ok (.aload_n 0, 1) := by decide +kernel
theorem dX9_init_86 : decode cX9_init 86 = .ok (.new 41, 3) := by decide +kernel
theorem dX9_init_89 : decode cX9_init 89 = .ok (.dup, 1) := by decide +kernel
theorem dX9_init_90 : decode cX9_init 90 = .ok (.invokespecial 43, 3) := by decide +kernel
theorem dX9_init_93 : decode cX9_init 93 = .ok (.putfield 44, 3) := by decide +kernel
theorem dX9_init_96 : decode cX9_init 96 = .ok (.aload_n 0, 1) := by decide +kernel
theorem dX9_init_97 : decode cX9_init 97 = .ok (.iconst 1, 1) := by decide +kernel
theorem dX9_init_98 : decode cX9_init 98 = .ok (.putfield 48, 3) := by decide +kernel
theorem dX9_init_101 : decode cX9_init 101 = .ok (.return_, 1) := by decide +kernel
theorem dX9_rock_0 : decode cX9_rock 0 = .ok (.aload_n 0, 1) := by decide +kernel
theorem dX9_rock_1 : decode cX9_rock 1 = .ok (.iload_n 1, 1) := by decide +kernel
theorem dX9_rock_2 : decode cX9_rock 2 = .ok (.invokevirtual 52, 3) := by decide +kernel
theorem dX9_rock_5 : decode cX9_rock 5 = .ok (.astore_n 3, 1) := by decide +kernel
theorem dX9_rock_6 : decode cX9_rock 6 = .ok (.iload_n 2, 1) := by decide +kernel
theorem dX9_rock_7 : decode cX9_rock 7 = .ok (.iconst 1, 1) := by decide +kernel
theorem dX9_rock_8 : decode cX9_rock 8 = .ok (.bipush 40, 2) := by decide +kernel
theorem dX9_rock_10 : decode cX9_rock 10 = .ok (.invokestatic 56, 3) := by decide +kernel
theorem dX9_rock_13 : decode cX9_rock 13 = .ok (.aload_n 3, 1) := by decide +kernel
theorem dX9_rock_14 : decode cX9_rock 14 = .ok (.getfield 60, 3) := by decide +kernel
theorem dX9_rock_17 : decode cX9_rock 17 = .ok (.istore 4, 2) := by decide +kernel
theorem dX9_rock_19 : decode cX9_rock 19 = .ok (.aload_n 3, 1) := by decide +kernel
theorem dX9_rock_20 : decode cX9_rock 20 = .ok (.iload_n 2, 1) := by decide +kernel
theorem dX9_rock_21 : decode cX9_rock 21 = .ok (.putfield 60, 3) := by decide +kernel
theorem dX9_rock_24 : decode cX9_rock 24 = .ok (.iload 4, 2) := by decide +kernel
theorem dX9_rock_26 : decode cX9_rock 26 = .ok (.ireturn, 1) := by decide +kernel
theorem dX9_land_0 : decode cX9_land 0 = .ok (.aload_n 0, 1) := by decide +kernel
theorem dX9_land_1 : decode cX9_land 1 = .ok (.iload_n 1, 1) := by decide +kernel
theorem dX9_land_2 : decode cX9_land 2 = .ok (.invokevirtual 52, 3) := by decide +kernel
theorem dX9_land_5 : decode cX9_land 5 = .ok (.astore_n 3, 1) := by decide +kernel
theorem dX9_land_6 : decode cX9_land 6 = .ok (.iload_n 2, 1) := by decide +kernel
theorem dX9_land_7 : decode cX9_land 7 = .ok (.iconst 0, 1) := by decide +kernel
theorem dX9_land_8 : decode cX9_land 8 = .ok (.iconst 2, 1) := by decide +kernel
theorem dX9_land_9 : decode cX9_land 9 = .ok (.invokestatic 56, 3) := by decide +kernel
theorem dX9_land_12 : decode cX9_land 12 = .ok (.aload_n 3, 1) := by decide +kernel
theorem dX9_land_13 : decode cX9_land 13 = .ok (.getfield 63, 3) := by decide +kernel
theorem dX9_land_16 : decode cX9_land 16 = .ok (.ifCond .ne 7, 3) := by decide +kernel
theorem dX9_land_19 : decode cX9_land 19 = .ok (.iconst 1, 1) := by decide +kernel
theorem dX9_land_20 : decode cX9_land 20 = .ok (.goto 4, 3) := by decide +kernel
theorem dX9_land_23 : decode cX9_land 23 = .ok (.iconst 0, 1) := by decide +kernel
theorem dX9_land_24 : decode cX9_land 24 = .ok (.invokestatic 66, 3) := by decide +kernel
theorem dX9_land_27 : decode cX9_land 27 = .ok (.aload_n 3, 1) := by decide +kernel
theorem dX9_land_28 : decode cX9_land 28 = .ok (.getfield 70, 3) := by decide +kernel
theorem dX9_land_31 : decode cX9_land 31 = .ok (.istore 4, 2) := by decide +kernel
theorem dX9_land_33 : decode cX9_land 33 = .ok (.aload_n 3, 1) := by decide +kernel
theorem dX9_land_34 : decode cX9_land 34 = .ok (.iload_n 2, 1) := by decide +kernel
theorem dX9_land_35 : decode cX9_land 35 = .ok (.putfield 70, 3) := by decide +kernel
theorem dX9_land_38 : decode cX9_land 38 = .ok (.iload 4, 2) := by decide +kernel
theorem dX9_land_40 : decode cX9_land 40 = .ok (.ireturn, 1) := by decide +kernel
theorem dX9_lead_0 : decode cX9_lead 0 = .ok (.aload_n 0, 1) := by decide +kernel
theorem dX9_lead_1 : decode cX9_lead 1 = .ok (.iload_n 1, 1) := by decide +kernel
theorem dX9_lead_2 : decode cX9_lead 2 = .ok (.invokevirtual 52, 3) := by decide +kernel
theorem dX9_lead_5 : decode cX9_lead 5 = .ok (.astore_n 3, 1) := by decide +kernel
theorem dX9_lead_6 : decode cX9_lead 6 = .ok (.iload_n 2, 1) := by decide +kernel
theorem dX9_lead_7 : decode cX9_lead 7 = .ok (.iconst (-1), 1) := by decide +kernel
theorem dX9_lead_8 : decode cX9_lead 8 = .ok (.if_icmp .ne 7, 3) := by decide +kernel
theorem dX9_lead_11 : decode cX9_lead 11 = .ok (.aconst_null, 1) := by decide +kernel
theorem dX9_lead_12 : decode cX9_lead 12 = .ok (.goto 8, 3) := by decide +kernel
theorem dX9_lead_15 : decode cX9_lead 15 = .ok (.aload_n 0, 1) := by decide +kernel
theorem dX9_lead_16 : decode cX9_lead 16 = .ok (.iload_n 2, 1) := by decide +kernel
theorem dX9_lead_17 : decode cX9_lead 17 = .ok (.invokevirtual 52, 3) := by decide +kernel
theorem dX9_lead_20 : decode cX9_lead 20 = .ok (.astore 4, 2) := by decide +kernel
theorem dX9_lead_22 : decode cX9_lead 22 = .ok (.iload_n 2, 1) := by decide +kernel
theorem dX9_lead_23 : decode cX9_lead 23 = .ok (.iload_n 1, 1) := by decide +kernel
theorem dX9_lead_24 : decode cX9_lead 24 = .ok (.if_icmp .ge 7, 3) := by decide +kernel
theorem dX9_lead_27 : decode cX9_lead 27 = .ok (.iconst 1, 1) := by decide +kernel
theorem dX9_lead_28 : decode cX9_lead 28 = .ok (.goto 4, 3) := by decide +kernel
theorem dX9_lead_31 : decode cX9_lead 31 = .ok (.iconst 0, 1) := by decide +kernel
theorem dX9_lead_32 : decode cX9_lead 32 = .ok (.invokestatic 73, 3) := by decide +kernel
theorem dX9_lead_35 : decode cX9_lead 35 = .ok (.aload_n 3, 1) := by decide +kernel
theorem dX9_lead_36 : decode cX9_lead 36 = .ok (.invokevirtual 76, 3) := by decide +kernel
theorem dX9_lead_39 : decode cX9_lead 39 = .ok (.istore 5, 2) := by decide +kernel
theorem dX9_lead_41 : decode cX9_lead 41 = .ok (.aload_n 3, 1) := by decide +kernel
theorem dX9_lead_42 : decode cX9_lead 42 = .ok (.aload 4, 2) := by decide +kernel
theorem dX9_lead_44 : decode cX9_lead 44 = .ok (.putfield 80, 3) := by decide +kernel
theorem dX9_lead_47 : decode cX9_lead 47 = .ok (.iload 5, 2) := by decide +kernel
theorem dX9_lead_49 : decode cX9_lead 49 = .ok (.ireturn, 1) := by decide +kernel
theorem dX9_spill_0 : decode cX9_spill 0 = .ok (.aload_n 0, 1) := by decide +kernel
theorem dX9_spill_1 : decode cX9_spill 1 = .ok (.iload_n 1, 1) := by decide +kernel
theorem dX9_spill_2 : decode cX9_spill 2 = .ok (.invokevirtual 52, 3) := by decide +kernel
theorem dX9_spill_5 : decode cX9_spill 5 = .ok (.astore_n 3, 1) := by decide +kernel
theorem dX9_spill_6 : decode cX9_spill 6 = .ok (.iload_n 2, 1) := by decide +kernel
theorem dX9_spill_7 : decode cX9_spill 7 = .ok (.bipush 8, 2) := by decide +kernel
theorem dX9_spill_9 : decode cX9_spill 9 = .ok (.invokestatic 83, 3) := by decide +kernel
theorem dX9_spill_12 : decode cX9_spill 12 = .ok (.aload_n 3, 1) := by decide +kernel
theorem dX9_spill_13 : decode cX9_spill 13 = .ok (.invokevirtual 87, 3) := by decide +kernel
theorem dX9_spill_16 : decode cX9_spill 16 = .ok (.iconst 5, 1) := by decide +kernel
theorem dX9_spill_17 : decode cX9_spill 17 = .ok (.if_icmp .le 7, 3) := by decide +kernel
theorem dX9_spill_20 : decode cX9_spill 20 = .ok (.iconst 1, 1) := by decide +kernel
theorem dX9_spill_21 : decode cX9_spill 21 = .ok (.goto 4, 3) := by decide +kernel
theorem dX9_spill_24 : decode cX9_spill 24 = .ok (.iconst 0, 1) := by decide +kernel
theorem dX9_spill_25 : decode cX9_spill 25 = .ok (.invokestatic 66, 3) := by decide +kernel
theorem dX9_spill_28 : decode cX9_spill 28 = .ok (.aload_n 3, 1) := by decide +kernel
theorem dX9_spill_29 : decode cX9_spill 29 = .ok (.dup, 1) := by decide +kernel
theorem dX9_spill_30 : decode cX9_spill 30 = .ok (.getfield 90, 3) := by decide +kernel
theorem dX9_spill_33 : decode cX9_spill 33 = .ok (.iconst 1, 1) := by decide +kernel
theorem dX9_spill_34 : decode cX9_spill 34 = .ok (.iload_n 2, 1) := by decide +kernel
theorem dX9_spill_35 : decode cX9_spill 35 = .ok (.ishl, 1) := by decide +kernel
theorem dX9_spill_36 : decode cX9_spill 36 = .ok (.ior, 1) := by decide +kernel
theorem dX9_spill_37 : decode cX9_spill 37 = .ok (.putfield 90, 3) := by decide +kernel
theorem dX9_spill_40 : decode cX9_spill 40 = .ok (.aload_n 3, 1) := by decide +kernel
theorem dX9_spill_41 : decode cX9_spill 41 = .ok (.getfield 90, 3) := by decide +kernel
theorem dX9_spill_44 : decode cX9_spill 44 = .ok (.ireturn, 1) := by decide +kernel
theorem dX9_contract_0 : decode cX9_contract 0 = .ok (.aload_n 0, 1) := by decide +kernel
theorem dX9_contract_1 : decode cX9_contract 1 = .ok (.iload_n 1, 1) := by decide +kernel
theorem dX9_contract_2 : decode cX9_contract 2 = .ok (.invokevirtual 52, 3) := by decide +kernel
theorem dX9_contract_5 : decode cX9_contract 5 = .ok (.astore 4, 2) := by decide +kernel
theorem dX9_contract_7 : decode cX9_contract 7 = .ok (.iload_n 2, 1) := by decide +kernel
theorem dX9_contract_8 : decode cX9_contract 8 = .ok (.iconst 1, 1) := by decide +kernel
theorem dX9_contract_9 : decode cX9_contract 9 = .ok (.bipush 30, 2) := by decide +kernel
theorem dX9_contract_11 : decode cX9_contract 11 = .ok (.invokestatic 56, 3) := by decide +kernel
theorem dX9_contract_14 : decode cX9_contract 14 = .ok (.iload_n 3, 1) := by decide +kernel
theorem dX9_contract_15 : decode cX9_contract 15 = .ok (.iconst 0, 1) := by decide +kernel
theorem dX9_contract_16 : decode cX9_contract 16 = .ok (.sipush 1000, 3) := by decide +kernel
theorem dX9_contract_19 : decode cX9_contract 19 = .ok (.invokestatic 56, 3) := by decide +kernel
theorem dX9_contract_22 : decode cX9_contract 22 = .ok (.aload 4, 2) := by decide +kernel
theorem dX9_contract_24 : decode cX9_contract 24 = .ok (.getfield 70, 3) := by decide +kernel
theorem dX9_contract_27 : decode cX9_contract 27 = .ok (.iconst 2, 1) := by decide +kernel
theorem dX9_contract_28 : decode cX9_contract 28 = .ok (.if_icmp .ne 15, 3) := by decide +kernel
theorem dX9_contract_31 : decode cX9_contract 31 = .ok (.aload 4, 2) := by decide +kernel
theorem dX9_contract_33 : decode cX9_contract 33 = .ok (.getfield 63, 3) := by decide +kernel
theorem dX9_contract_36 : decode cX9_contract 36 = .ok (.ifCond .ne 7, 3) := by decide +kernel
theorem dX9_contract_39 : decode cX9_contract 39 = .ok (.iconst 1, 1) := by decide +kernel
theorem dX9_contract_40 : decode cX9_contract 40 = .ok (.goto 4, 3) := by decide +kernel
theorem dX9_contract_43 : decode cX9_contract 43 = .ok (.iconst 0, 1) := by decide +kernel
theorem dX9_contract_44 : decode cX9_contract 44 = .ok (.invokestatic 66, 3) := by decide +kernel
theorem dX9_contract_47 : decode cX9_contract 47 = .ok (.aload 4, 2) := by decide +kernel
theorem dX9_contract_49 : decode cX9_contract 49 = .ok (.iload_n 2, 1) := by decide +kernel
theorem dX9_contract_50 : decode cX9_contract 50 = .ok (.putfield 63, 3) := by decide +kernel
theorem dX9_contract_53 : decode cX9_contract 53 = .ok (.aload 4, 2) := by decide +kernel
theorem dX9_contract_55 : decode cX9_contract 55 = .ok (.iload_n 3, 1) := by decide +kernel
theorem dX9_contract_56 : decode cX9_contract 56 = .ok (.putfield 93, 3) := by decide +kernel
theorem dX9_contract_59 : decode cX9_contract 59 = .ok (.return_, 1) := by decide +kernel
theorem dX9_pass_0 : decode cX9_pass 0 = .ok (.iload_n 1, 1) := by decide +kernel
theorem dX9_pass_1 : decode cX9_pass 1 = .ok (.iconst 1, 1) := by decide +kernel
theorem dX9_pass_2 : decode cX9_pass 2 = .ok (.bipush 20, 2) := by decide +kernel
theorem dX9_pass_4 : decode cX9_pass 4 = .ok (.invokestatic 56, 3) := by decide +kernel
theorem dX9_pass_7 : decode cX9_pass 7 = .ok (.iload_n 2, 1) := by decide +kernel
theorem dX9_pass_8 : decode cX9_pass 8 = .ok (.iconst 0, 1) := by decide +kernel
theorem dX9_pass_9 : decode cX9_pass 9 = .ok (.sipush 1000, 3) := by decide +kernel
theorem dX9_pass_12 : decode cX9_pass 12 = .ok (.invokestatic 56, 3) := by decide +kernel
theorem dX9_pass_15 : decode cX9_pass 15 = .ok (.aload_n 0, 1) := by decide +kernel
theorem dX9_pass_16 : decode cX9_pass 16 = .ok (.getfield 96, 3) := by decide +kernel
theorem dX9_pass_19 : decode cX9_pass 19 = .ok (.iload_n 1, 1) := by decide +kernel
theorem dX9_pass_20 : decode cX9_pass 20 = .ok (.iadd, 1) := by decide +kernel
theorem dX9_pass_21 : decode cX9_pass 21 = .ok (.sipush 300, 3) := by decide +kernel
theorem dX9_pass_24 : decode cX9_pass 24 = .ok (.if_icmp .gt 7, 3) := by decide +kernel
theorem dX9_pass_27 : decode cX9_pass 27 = .ok (.iconst 1, 1) := by decide +kernel
theorem dX9_pass_28 : decode cX9_pass 28 = .ok (.goto 4, 3) := by decide +kernel
theorem dX9_pass_31 : decode cX9_pass 31 = .ok (.iconst 0, 1) := by decide +kernel
theorem dX9_pass_32 : decode cX9_pass 32 = .ok (.invokestatic 66, 3) := by decide +kernel
theorem dX9_pass_35 : decode cX9_pass 35 = .ok (.iconst 0, 1) := by decide +kernel
theorem dX9_pass_36 : decode cX9_pass 36 = .ok (.istore_n 3, 1) := by decide +kernel
theorem dX9_pass_37 : decode cX9_pass 37 = .ok (.iload_n 3, 1) := by decide +kernel
theorem dX9_pass_38 : decode cX9_pass 38 = .ok (.iload_n 1, 1) := by decide +kernel
theorem dX9_pass_39 : decode cX9_pass 39 = .ok (.if_icmp .ge 14, 3) := by decide +kernel
theorem dX9_pass_42 : decode cX9_pass 42 = .ok (.aload_n 0, 1) := by decide +kernel
theorem dX9_pass_43 : decode cX9_pass 43 = .ok (.iload_n 2, 1) := by decide +kernel
theorem dX9_pass_44 : decode cX9_pass 44 = .ok (.invokevirtual 99, 3) := by decide +kernel
theorem dX9_pass_47 : decode cX9_pass 47 = .ok (.iinc 3 1, 3) := by decide +kernel
theorem dX9_pass_50 : decode cX9_pass 50 = .ok (.goto (-13), 3) := by decide +kernel
theorem dX9_pass_53 : decode cX9_pass 53 = .ok (.aload_n 0, 1) := by decide +kernel
theorem dX9_pass_54 : decode cX9_pass 54 = .ok (.getfield 96, 3) := by decide +kernel
theorem dX9_pass_57 : decode cX9_pass 57 = .ok (.ireturn, 1) := by decide +kernel
theorem dX9_passOne_0 : decode cX9_passOne 0 = .ok (.aload_n 0, 1) := by decide +kernel
theorem dX9_passOne_1 : decode cX9_passOne 1 = .ok (.invokevirtual 103, 3) := by decide +kernel
theorem dX9_passOne_4 : decode cX9_passOne 4 = .ok (.iload_n 1, 1) := by decide +kernel
theorem dX9_passOne_5 : decode cX9_passOne 5 = .ok (.ifCond .le 8, 3) := by decide +kernel
theorem dX9_passOne_8 : decode cX9_passOne 8 = .ok (.aload_n 0, 1) := by decide +kernel
theorem dX9_passOne_9 : decode cX9_passOne 9 = .ok (.iload_n 1, 1) := by decide +kernel
theorem dX9_passOne_10 : decode cX9_passOne 10 = .ok (.invokevirtual 106, 3) := by decide +kernel
theorem dX9_passOne_13 : decode cX9_passOne 13 = .ok (.aload_n 0, 1) := by decide +kernel
theorem dX9_passOne_14 : decode cX9_passOne 14 = .ok (.invokevirtual 109, 3) := by decide +kernel
theorem dX9_passOne_17 : decode cX9_passOne 17 = .ok (.aload_n 0, 1) := by decide +kernel
theorem dX9_passOne_18 : decode cX9_passOne 18 = .ok (.dup, 1) := by decide +kernel
theorem dX9_passOne_19 : decode cX9_passOne 19 = .ok (.getfield 96, 3) := by decide +kernel
theorem dX9_passOne_22 : decode cX9_passOne 22 = .ok (.iconst 1, 1) := by decide +kernel
theorem dX9_passOne_23 : decode cX9_passOne 23 = .ok (.iadd, 1) := by decide +kernel
theorem dX9_passOne_24 : decode cX9_passOne 24 = .ok (.putfield 96, 3) := by decide +kernel
theorem dX9_passOne_27 : decode cX9_passOne 27 = .ok (.iconst 0, 1) := by decide +kernel
theorem dX9_passOne_28 : decode cX9_passOne 28 = .ok (.istore_n 2, 1) := by decide +kernel
theorem dX9_passOne_29 : decode cX9_passOne 29 = .ok (.iload_n 2, 1) := by decide +kernel
theorem dX9_passOne_30 : decode cX9_passOne 30 = .ok (.aload_n 0, 1) := by decide +kernel
theorem dX9_passOne_31 : decode cX9_passOne 31 = .ok (.getfield 112, 3) := by decide +kernel
theorem dX9_passOne_34 : decode cX9_passOne 34 = .ok (.if_icmp .ge 19, 3) := by decide +kernel
theorem dX9_passOne_37 : decode cX9_passOne 37 = .ok (.aload_n 0, 1) := by decide +kernel
theorem dX9_passOne_38 : decode cX9_passOne 38 = .ok (.getfield 24, 3) := by decide +kernel
theorem dX9_passOne_41 : decode cX9_passOne 41 = .ok (.iload_n 2, 1) := by decide +kernel
theorem dX9_passOne_42 : decode cX9_passOne 42 = .ok (.aaload, 1) := by decide +kernel
theorem dX9_passOne_43 : decode cX9_passOne 43 = .ok (.iconst 0, 1) := by decide +kernel
theorem dX9_passOne_44 : decode cX9_passOne 44 = .ok (.putfield 115, 3) := by decide +kernel
theorem dX9_passOne_47 : decode cX9_passOne 47 = .ok (.iinc 2 1, 3) := by decide +kernel
theorem dX9_passOne_50 : decode cX9_passOne 50 = .ok (.goto (-21), 3) := by decide +kernel
theorem dX9_passOne_53 : decode cX9_passOne 53 = .ok (.return_, 1) := by decide +kernel
theorem dX9_leadOn_0 : decode cX9_leadOn 0 = .ok (.aload_n 0, 1) := by decide +kernel
theorem dX9_leadOn_1 : decode cX9_leadOn 1 = .ok (.getfield 37, 3) := by decide +kernel
theorem dX9_leadOn_4 : decode cX9_leadOn 4 = .ok (.invokevirtual 118, 3) := by decide +kernel
theorem dX9_leadOn_7 : decode cX9_leadOn 7 = .ok (.iconst 0, 1) := by decide +kernel
theorem dX9_leadOn_8 : decode cX9_leadOn 8 = .ok (.istore_n 1, 1) := by decide +kernel
theorem dX9_leadOn_9 : decode cX9_leadOn 9 = .ok (.iload_n 1, 1) := by decide +kernel
theorem dX9_leadOn_10 : decode cX9_leadOn 10 = .ok (.bipush 10, 2) := by decide +kernel
theorem dX9_leadOn_12 : decode cX9_leadOn 12 = .ok (.if_icmp .ge 70, 3) := by decide +kernel
theorem dX9_leadOn_15 : decode cX9_leadOn 15 = .ok (.aload_n 0, 1) := by decide +kernel
theorem dX9_leadOn_16 : decode cX9_leadOn 16 = .ok (.getfield 11, 3) := by decide +kernel
theorem dX9_leadOn_19 : decode cX9_leadOn 19 = .ok (.iload_n 1, 1) := by decide +kernel
theorem dX9_leadOn_20 : decode cX9_leadOn 20 = .ok (.aaload, 1) := by decide +kernel
theorem dX9_leadOn_21 : decode cX9_leadOn 21 = .ok (.astore_n 2, 1) := by decide +kernel
theorem dX9_leadOn_22 : decode cX9_leadOn 22 = .ok (.aload_n 2, 1) := by decide +kernel
theorem dX9_leadOn_23 : decode cX9_leadOn 23 = .ok (.invokevirtual 121, 3) := by decide +kernel
theorem dX9_leadOn_26 : decode cX9_leadOn 26 = .ok (.istore_n 3, 1) := by decide +kernel
theorem dX9_leadOn_27 : decode cX9_leadOn 27 = .ok (.aload_n 2, 1) := by decide +kernel
theorem dX9_leadOn_28 : decode cX9_leadOn 28 = .ok (.getfield 80, 3) := by decide +kernel
theorem dX9_leadOn_31 : decode cX9_leadOn 31 = .ok (.ifnonnull 10, 3) := by decide +kernel
theorem dX9_leadOn_34 : decode cX9_leadOn 34 = .ok (.aload_n 0, 1) := by decide +kernel
theorem dX9_leadOn_35 : decode cX9_leadOn 35 = .ok (.getfield 37, 3) := by decide +kernel
theorem dX9_leadOn_38 : decode cX9_leadOn 38 = .ok (.goto 10, 3) := by decide +kernel
theorem dX9_leadOn_41 : decode cX9_leadOn 41 = .ok (.aload_n 2, 1) := by decide +kernel
theorem dX9_leadOn_42 : decode cX9_leadOn 42 = .ok (.getfield 80, 3) := by decide +kernel
theorem dX9_leadOn_45 : decode cX9_leadOn 45 = .ok (.getfield 124, 3) := by decide +kernel
theorem dX9_leadOn_48 : decode cX9_leadOn 48 = .ok (.astore 4, 2) := by decide +kernel
theorem dX9_leadOn_50 : decode cX9_leadOn 50 = .ok (.aload 4, 2) := by decide +kernel
theorem dX9_leadOn_52 : decode cX9_leadOn 52 = .ok (.aload_n 2, 1) := by decide +kernel
theorem dX9_leadOn_53 : decode cX9_leadOn 53 = .ok (.getfield 124, 3) := by decide +kernel
theorem dX9_leadOn_56 : decode cX9_leadOn 56 = .ok (.iload_n 3, 1) := by decide +kernel
theorem dX9_leadOn_57 : decode cX9_leadOn 57 = .ok (.invokevirtual 127, 3) := by decide +kernel
theorem dX9_leadOn_60 : decode cX9_leadOn 60 = .ok (.invokevirtual 131, 3) := by decide +kernel
theorem dX9_leadOn_63 : decode cX9_leadOn 63 = .ok (.aload_n 0, 1) := by decide +kernel
theorem dX9_leadOn_64 : decode cX9_leadOn 64 = .ok (.getfield 44, 3) := by decide +kernel
theorem dX9_leadOn_67 : decode cX9_leadOn 67 = .ok (.iload_n 1, 1) := by decide +kernel
theorem dX9_leadOn_68 : decode cX9_leadOn 68 = .ok (.aload_n 2, 1) := by decide +kernel
theorem dX9_leadOn_69 : decode cX9_leadOn 69 = .ok (.invokevirtual 76, 3) := by decide +kernel
theorem dX9_leadOn_72 : decode cX9_leadOn 72 = .ok (.iload_n 3, 1) := by decide +kernel
theorem dX9_leadOn_73 : decode cX9_leadOn 73 = .ok (.invokevirtual 135, 3) := by decide +kernel
theorem dX9_leadOn_76 : decode cX9_leadOn 76 = .ok (.iinc 1 1, 3) := by decide +kernel
theorem dX9_leadOn_79 : decode cX9_leadOn 79 = .ok (.goto (-70), 3) := by decide +kernel
theorem dX9_leadOn_82 : decode cX9_leadOn 82 = .ok (.aload_n 0, 1) := by decide +kernel
theorem dX9_leadOn_83 : decode cX9_leadOn 83 = .ok (.dup, 1) := by decide +kernel
theorem dX9_leadOn_84 : decode cX9_leadOn 84 = .ok (.getfield 138, 3) := by decide +kernel
theorem dX9_leadOn_87 : decode cX9_leadOn 87 = .ok (.aload_n 0, 1) := by decide +kernel
theorem dX9_leadOn_88 : decode cX9_leadOn 88 = .ok (.getfield 37, 3) := by decide +kernel
theorem dX9_leadOn_91 : decode cX9_leadOn 91 = .ok (.getfield 142, 3) := by decide +kernel
theorem dX9_leadOn_94 : decode cX9_leadOn 94 = .ok (.i2l, 1) := by decide +kernel
theorem dX9_leadOn_95 : decode cX9_leadOn 95 = .ok (.ladd, 1) := by decide +kernel
theorem dX9_leadOn_96 : decode cX9_leadOn 96 = .ok (.putfield 138, 3) := by decide +kernel
theorem dX9_leadOn_99 : decode cX9_leadOn 99 = .ok (.return_, 1) := by decide +kernel
theorem dX9_rainOn_0 : decode cX9_rainOn 0 = .ok (.iconst 0, 1) := by decide +kernel
theorem dX9_rainOn_1 : decode cX9_rainOn 1 = .ok (.istore_n 2, 1) := by decide +kernel
theorem dX9_rainOn_2 : decode cX9_rainOn 2 = .ok (.iload_n 2, 1) := by decide +kernel
theorem dX9_rainOn_3 : decode cX9_rainOn 3 = .ok (.bipush 10, 2) := by decide +kernel
theorem dX9_rainOn_5 : decode cX9_rainOn 5 = .ok (.if_icmp .ge 23, 3) := by decide +kernel
theorem dX9_rainOn_8 : decode cX9_rainOn 8 = .ok (.aload_n 0, 1) := by decide +kernel
theorem dX9_rainOn_9 : decode cX9_rainOn 9 = .ok (.getfield 11, 3) := by decide +kernel
theorem dX9_rainOn_12 : decode cX9_rainOn 12 = .ok (.iload_n 2, 1) := by decide +kernel
theorem dX9_rainOn_13 : decode cX9_rainOn 13 = .ok (.aaload, 1) := by decide +kernel
theorem dX9_rainOn_14 : decode cX9_rainOn 14 = .ok (.aload_n 0, 1) := by decide +kernel
theorem dX9_rainOn_15 : decode cX9_rainOn 15 = .ok (.getfield 96, 3) := by decide +kernel
theorem dX9_rainOn_18 : decode cX9_rainOn 18 = .ok (.iload_n 1, 1) := by decide +kernel
theorem dX9_rainOn_19 : decode cX9_rainOn 19 = .ok (.invokevirtual 145, 3) := by decide +kernel
theorem dX9_rainOn_22 : decode cX9_rainOn 22 = .ok (.iinc 2 1, 3) := by decide +kernel
theorem dX9_rainOn_25 : decode cX9_rainOn 25 = .ok (.goto (-23), 3) := by decide +kernel
theorem dX9_rainOn_28 : decode cX9_rainOn 28 = .ok (.aload_n 0, 1) := by decide +kernel
theorem dX9_rainOn_29 : decode cX9_rainOn 29 = .ok (.getfield 44, 3) := by decide +kernel
theorem dX9_rainOn_32 : decode cX9_rainOn 32 = .ok (.bipush (-2), 2) := by decide +kernel
theorem dX9_rainOn_34 : decode cX9_rainOn 34 = .ok (.aload_n 0, 1) := by decide +kernel
theorem dX9_rainOn_35 : decode cX9_rainOn 35 = .ok (.getfield 96, 3) := by decide +kernel
theorem dX9_rainOn_38 : decode cX9_rainOn 38 = .ok (.iload_n 1, 1) := by decide +kernel
theorem dX9_rainOn_39 : decode cX9_rainOn 39 = .ok (.invokevirtual 135, 3) := by decide +kernel
theorem dX9_rainOn_42 : decode cX9_rainOn 42 = .ok (.aload_n 0, 1) := by decide +kernel
theorem dX9_rainOn_43 : decode cX9_rainOn 43 = .ok (.dup, 1) := by decide +kernel
theorem dX9_rainOn_44 : decode cX9_rainOn 44 = .ok (.getfield 148, 3) := by decide +kernel
theorem dX9_rainOn_47 : decode cX9_rainOn 47 = .ok (.iload_n 1, 1) := by decide +kernel
theorem dX9_rainOn_48 : decode cX9_rainOn 48 = .ok (.i2l, 1) := by decide +kernel
theorem dX9_rainOn_49 : decode cX9_rainOn 49 = .ok (.ldc2_w 151, 3) := by decide +kernel
theorem dX9_rainOn_52 : decode cX9_rainOn 52 = .ok (.lmul, 1) := by decide +kernel
theorem dX9_rainOn_53 : decode cX9_rainOn 53 = .ok (.ladd, 1) := by decide +kernel
theorem dX9_rainOn_54 : decode cX9_rainOn 54 = .ok (.putfield 148, 3) := by decide +kernel
theorem dX9_rainOn_57 : decode cX9_rainOn 57 = .ok (.return_, 1) := by decide +kernel
theorem dX9_payContracts_0 : decode cX9_payContracts 0 = .ok (.iconst 0, 1) := by decide +kernel
theorem dX9_payContracts_1 : decode cX9_payContracts 1 = .ok (.istore_n 1, 1) := by decide +kernel
theorem dX9_payContracts_2 : decode cX9_payContracts 2 = .ok (.iload_n 1, 1) := by decide +kernel
theorem dX9_payContracts_3 : decode cX9_payContracts 3 = .ok (.bipush 10, 2) := by decide +kernel
theorem dX9_payContracts_5 : decode cX9_payContracts 5 = .ok (.if_icmp .ge 47, 3) := by decide +kernel
theorem dX9_payContracts_8 : decode cX9_payContracts 8 = .ok (.aload_n 0, 1) := by decide +kernel
theorem dX9_payContracts_9 : decode cX9_payContracts 9 = .ok (.getfield 11, 3) := by decide +kernel
theorem dX9_payContracts_12 : decode cX9_payContracts 12 = .ok (.iload_n 1, 1) := by decide +kernel
theorem dX9_payContracts_13 : decode cX9_payContracts 13 = .ok (.aaload, 1) := by decide +kernel
theorem dX9_payContracts_14 : decode cX9_payContracts 14 = .ok (.astore_n 2, 1) := by decide +kernel
theorem dX9_payContracts_15 : decode cX9_payContracts 15 = .ok (.aload_n 2, 1) := by decide +kernel
theorem dX9_payContracts_16 : decode cX9_payContracts 16 = .ok (.getfield 63, 3) := by decide +kernel
theorem dX9_payContracts_19 : decode cX9_payContracts 19 = .ok (.ifCond .le 27, 3) := by decide +kernel
theorem dX9_payContracts_22 : decode cX9_payContracts 22 = .ok (.aload_n 0, 1) := by decide +kernel
theorem dX9_payContracts_23 : decode cX9_payContracts 23 = .ok (.dup, 1) := by decide +kernel
theorem dX9_payContracts_24 : decode cX9_payContracts 24 = .ok (.getfield 153, 3) := by decide +kernel
theorem dX9_payContracts_27 : decode cX9_payContracts 27 = .ok (.aload_n 2, 1) := by decide +kernel
theorem dX9_payContracts_28 : decode cX9_payContracts 28 = .ok (.getfield 93, 3) := by decide +kernel
theorem dX9_payContracts_31 : decode cX9_payContracts 31 = .ok (.i2l, 1) := by decide +kernel
theorem dX9_payContracts_32 : decode cX9_payContracts 32 = .ok (.ladd, 1) := by decide +kernel
theorem dX9_payContracts_33 : decode cX9_payContracts 33 = .ok (.putfield 153, 3) := by decide +kernel
theorem dX9_payContracts_36 : decode cX9_payContracts 36 = .ok (.aload_n 2, 1) := by decide +kernel
theorem dX9_payContracts_37 : decode cX9_payContracts 37 = .ok (.dup, 1) := by decide +kernel
theorem dX9_payContracts_38 : decode cX9_payContracts 38 = .ok (.getfield 63, 3) := by decide +kernel
theorem dX9_payContracts_41 : decode cX9_payContracts 41 = .ok (.iconst 1, 1) := by decide +kernel
theorem dX9_payContracts_42 : decode cX9_payContracts 42 = .ok (.isub, 1) := by decide +kernel
theorem dX9_payContracts_43 : decode cX9_payContracts 43 = .ok (.putfield 63, 3) := by decide +kernel
theorem dX9_payContracts_46 : decode cX9_payContracts 46 = .ok (.iinc 1 1, 3) := by decide +kernel
theorem dX9_payContracts_49 : decode cX9_payContracts 49 = .ok (.goto (-47), 3) := by decide +kernel
theorem dX9_payContracts_52 : decode cX9_payContracts 52 = .ok (.return_, 1) := by decide +kernel
theorem dX9_well_0 : decode cX9_well 0 = .ok (.aload_n 0, 1) := by decide +kernel
theorem dX9_well_1 : decode cX9_well 1 = .ok (.iload_n 1, 1) := by decide +kernel
theorem dX9_well_2 : decode cX9_well 2 = .ok (.invokevirtual 52, 3) := by decide +kernel
theorem dX9_well_5 : decode cX9_well 5 = .ok (.astore_n 3, 1) := by decide +kernel
theorem dX9_well_6 : decode cX9_well 6 = .ok (.iload_n 2, 1) := by decide +kernel
theorem dX9_well_7 : decode cX9_well 7 = .ok (.iconst 0, 1) := by decide +kernel
theorem dX9_well_8 : decode cX9_well 8 = .ok (.sipush 10000, 3) := by decide +kernel
theorem dX9_well_11 : decode cX9_well 11 = .ok (.invokestatic 56, 3) := by decide +kernel
theorem dX9_well_14 : decode cX9_well 14 = .ok (.aload_n 0, 1) := by decide +kernel
theorem dX9_well_15 : decode cX9_well 15 = .ok (.getfield 112, 3) := by decide +kernel
theorem dX9_well_18 : decode cX9_well 18 = .ok (.bipush 6, 2) := by decide +kernel
theorem dX9_well_20 : decode cX9_well 20 = .ok (.if_icmp .ge 7, 3) := by decide +kernel
theorem dX9_well_23 : decode cX9_well 23 = .ok (.iconst 1, 1) := by decide +kernel
theorem dX9_well_24 : decode cX9_well 24 = .ok (.goto 4, 3) := by decide +kernel
theorem dX9_well_27 : decode cX9_well 27 = .ok (.iconst 0, 1) := by decide +kernel
theorem dX9_well_28 : decode cX9_well 28 = .ok (.invokestatic 66, 3) := by decide +kernel
theorem dX9_well_31 : decode cX9_well 31 = .ok (.aload_n 0, 1) := by decide +kernel
theorem dX9_well_32 : decode cX9_well 32 = .ok (.getfield 112, 3) := by decide +kernel
theorem dX9_well_35 : decode cX9_well 35 = .ok (.istore 4, 2) := by decide +kernel
theorem dX9_well_37 : decode cX9_well 37 = .ok (.aload_n 0, 1) := by decide +kernel
theorem dX9_well_38 : decode cX9_well 38 = .ok (.getfield 24, 3) := by decide +kernel
theorem dX9_well_41 : decode cX9_well 41 = .ok (.iload 4, 2) := by decide +kernel
theorem dX9_well_43 : decode cX9_well 43 = .ok (.new 22, 3) := by decide +kernel
theorem dX9_well_46 : decode cX9_well 46 = .ok (.dup, 1) := by decide +kernel
theorem dX9_well_47 : decode cX9_well 47 = .ok (.aload_n 3, 1) := by decide +kernel
theorem dX9_well_48 : decode cX9_well 48 = .ok (.iload_n 2, 1) := by decide +kernel
theorem dX9_well_49 : decode cX9_well 49 = .ok (.invokespecial 156, 3) := by decide +kernel
theorem dX9_well_52 : decode cX9_well 52 = .ok (.aastore, 1) := by decide +kernel
theorem dX9_well_53 : decode cX9_well 53 = .ok (.aload_n 0, 1) := by decide +kernel
theorem dX9_well_54 : decode cX9_well 54 = .ok (.dup, 1) := by decide +kernel
theorem dX9_well_55 : decode cX9_well 55 = .ok (.getfield 112, 3) := by decide +kernel
theorem dX9_well_58 : decode cX9_well 58 = .ok (.iconst 1, 1) := by decide +kernel
theorem dX9_well_59 : decode cX9_well 59 = .ok (.iadd, 1) := by decide +kernel
theorem dX9_well_60 : decode cX9_well 60 = .ok (.putfield 112, 3) := by decide +kernel
theorem dX9_well_63 : decode cX9_well 63 = .ok (.iload 4, 2) := by decide +kernel
theorem dX9_well_65 : decode cX9_well 65 = .ok (.ireturn, 1) := by decide +kernel
theorem dX9_drought_0 : decode cX9_drought 0 = .ok (.aload_n 0, 1) := by decide +kernel
theorem dX9_drought_1 : decode cX9_drought 1 = .ok (.iload_n 1, 1) := by decide +kernel
theorem dX9_drought_2 : decode cX9_drought 2 = .ok (.invokevirtual 52, 3) := by decide +kernel
theorem dX9_drought_5 : decode cX9_drought 5 = .ok (.astore 4, 2) := by decide +kernel
theorem dX9_drought_7 : decode cX9_drought 7 = .ok (.iload_n 2, 1) := by decide +kernel
theorem dX9_drought_8 : decode cX9_drought 8 = .ok (.iconst 0, 1) := by decide +kernel
theorem dX9_drought_9 : decode cX9_drought 9 = .ok (.ldc 159, 2) := by decide +kernel
theorem dX9_drought_11 : decode cX9_drought 11 = .ok (.invokestatic 56, 3) := by decide +kernel
theorem dX9_drought_14 : decode cX9_drought 14 = .ok (.iload_n 3, 1) := by decide +kernel
theorem dX9_drought_15 : decode cX9_drought 15 = .ok (.iconst 0, 1) := by decide +kernel
theorem dX9_drought_16 : decode cX9_drought 16 = .ok (.iload_n 2, 1) := by decide +kernel
theorem dX9_drought_17 : decode cX9_drought 17 = .ok (.invokestatic 56, 3) := by decide +kernel
theorem dX9_drought_20 : decode cX9_drought 20 = .ok (.aload_n 0, 1) := by decide +kernel
theorem dX9_drought_21 : decode cX9_drought 21 = .ok (.aload 4, 2) := by decide +kernel
theorem dX9_drought_23 : decode cX9_drought 23 = .ok (.putfield 18, 3) := by decide +kernel
theorem dX9_drought_26 : decode cX9_drought 26 = .ok (.aload_n 0, 1) := by decide +kernel
theorem dX9_drought_27 : decode cX9_drought 27 = .ok (.iload_n 2, 1) := by decide +kernel
theorem dX9_drought_28 : decode cX9_drought 28 = .ok (.putfield 160, 3) := by decide +kernel
theorem dX9_drought_31 : decode cX9_drought 31 = .ok (.aload_n 0, 1) := by decide +kernel
theorem dX9_drought_32 : decode cX9_drought 32 = .ok (.iload_n 3, 1) := by decide +kernel
theorem dX9_drought_33 : decode cX9_drought 33 = .ok (.putfield 163, 3) := by decide +kernel
theorem dX9_drought_36 : decode cX9_drought 36 = .ok (.return_, 1) := by decide +kernel
theorem dX9_share_0 : decode cX9_share 0 = .ok (.iload_n 1, 1) := by decide +kernel
theorem dX9_share_1 : decode cX9_share 1 = .ok (.iconst 0, 1) := by decide +kernel
theorem dX9_share_2 : decode cX9_share 2 = .ok (.bipush 100, 2) := by decide +kernel
theorem dX9_share_4 : decode cX9_share 4 = .ok (.invokestatic 56, 3) := by decide +kernel
theorem dX9_share_7 : decode cX9_share 7 = .ok (.aload_n 0, 1) := by decide +kernel
theorem dX9_share_8 : decode cX9_share 8 = .ok (.getfield 48, 3) := by decide +kernel
theorem dX9_share_11 : decode cX9_share 11 = .ok (.istore_n 2, 1) := by decide +kernel
theorem dX9_share_12 : decode cX9_share 12 = .ok (.aload_n 0, 1) := by decide +kernel
theorem dX9_share_13 : decode cX9_share 13 = .ok (.iload_n 1, 1) := by decide +kernel
theorem dX9_share_14 : decode cX9_share 14 = .ok (.putfield 48, 3) := by decide +kernel
theorem dX9_share_17 : decode cX9_share 17 = .ok (.iload_n 2, 1) := by decide +kernel
theorem dX9_share_18 : decode cX9_share 18 = .ok (.ireturn, 1) := by decide +kernel
theorem dX9_bottle_0 : decode cX9_bottle 0 = .ok (.aload_n 0, 1) := by decide +kernel
theorem dX9_bottle_1 : decode cX9_bottle 1 = .ok (.iload_n 1, 1) := by decide +kernel
theorem dX9_bottle_2 : decode cX9_bottle 2 = .ok (.invokevirtual 166, 3) := by decide +kernel
theorem dX9_bottle_5 : decode cX9_bottle 5 = .ok (.astore_n 3, 1) := by decide +kernel
theorem dX9_bottle_6 : decode cX9_bottle 6 = .ok (.iload_n 2, 1) := by decide +kernel
theorem dX9_bottle_7 : decode cX9_bottle 7 = .ok (.iconst 1, 1) := by decide +kernel
theorem dX9_bottle_8 : decode cX9_bottle 8 = .ok (.sipush 1000, 3) := by decide +kernel
theorem dX9_bottle_11 : decode cX9_bottle 11 = .ok (.invokestatic 56, 3) := by decide +kernel
theorem dX9_bottle_14 : decode cX9_bottle 14 = .ok (.aload_n 3, 1) := by decide +kernel
theorem dX9_bottle_15 : decode cX9_bottle 15 = .ok (.getfield 170, 3) := by decide +kernel
theorem dX9_bottle_18 : decode cX9_bottle 18 = .ok (.getfield 124, 3) := by decide +kernel
theorem dX9_bottle_21 : decode cX9_bottle 21 = .ok (.astore 4, 2) := by decide +kernel
theorem dX9_bottle_23 : decode cX9_bottle 23 = .ok (.iload_n 2, 1) := by decide +kernel
theorem dX9_bottle_24 : decode cX9_bottle 24 = .ok (.aload_n 0, 1) := by decide +kernel
theorem dX9_bottle_25 : decode cX9_bottle 25 = .ok (.aload_n 3, 1) := by decide +kernel
theorem dX9_bottle_26 : decode cX9_bottle 26 = .ok (.invokevirtual 173, 3) := by decide +kernel
theorem dX9_bottle_29 : decode cX9_bottle 29 = .ok (.if_icmp .gt 25, 3) := by decide +kernel
theorem dX9_bottle_32 : decode cX9_bottle 32 = .ok (.iload_n 2, 1) := by decide +kernel
theorem dX9_bottle_33 : decode cX9_bottle 33 = .ok (.aload 4, 2) := by decide +kernel
theorem dX9_bottle_35 : decode cX9_bottle 35 = .ok (.getfield 142, 3) := by decide +kernel
theorem dX9_bottle_38 : decode cX9_bottle 38 = .ok (.if_icmp .gt 16, 3) := by decide +kernel
theorem dX9_bottle_41 : decode cX9_bottle 41 = .ok (.aload_n 0, 1) := by decide +kernel
theorem dX9_bottle_42 : decode cX9_bottle 42 = .ok (.getfield 177, 3) := by decide +kernel
theorem dX9_bottle_45 : decode cX9_bottle 45 = .ok (.bipush 40, 2) := by decide +kernel
theorem dX9_bottle_47 : decode cX9_bottle 47 = .ok (.if_icmp .ge 7, 3) := by decide +kernel
theorem dX9_bottle_50 : decode cX9_bottle 50 = .ok (.iconst 1, 1) := by decide +kernel
theorem dX9_bottle_51 : decode cX9_bottle 51 = .ok (.goto 4, 3) := by decide +kernel
theorem dX9_bottle_54 : decode cX9_bottle 54 = .ok (.iconst 0, 1) := by decide +kernel
theorem dX9_bottle_55 : decode cX9_bottle 55 = .ok (.invokestatic 66, 3) := by decide +kernel
theorem dX9_bottle_58 : decode cX9_bottle 58 = .ok (.aload_n 0, 1) := by decide +kernel
theorem dX9_bottle_59 : decode cX9_bottle 59 = .ok (.getfield 177, 3) := by decide +kernel
theorem dX9_bottle_62 : decode cX9_bottle 62 = .ok (.istore 5, 2) := by decide +kernel
theorem dX9_bottle_64 : decode cX9_bottle 64 = .ok (.aload_n 0, 1) := by decide +kernel
theorem dX9_bottle_65 : decode cX9_bottle 65 = .ok (.getfield 30, 3) := by decide +kernel
theorem dX9_bottle_68 : decode cX9_bottle 68 = .ok (.iload 5, 2) := by decide +kernel
theorem dX9_bottle_70 : decode cX9_bottle 70 = .ok (.new 28, 3) := by decide +kernel
theorem dX9_bottle_73 : decode cX9_bottle 73 = .ok (.dup, 1) := by decide +kernel
theorem dX9_bottle_74 : decode cX9_bottle 74 = .ok (.iload_n 1, 1) := by decide +kernel
theorem dX9_bottle_75 : decode cX9_bottle 75 = .ok (.aload_n 0, 1) := by decide +kernel
theorem dX9_bottle_76 : decode cX9_bottle 76 = .ok (.getfield 96, 3) := by decide +kernel
theorem dX9_bottle_79 : decode cX9_bottle 79 = .ok (.aload 4, 2) := by decide +kernel
theorem dX9_bottle_81 : decode cX9_bottle 81 = .ok (.iload_n 2, 1) := by decide +kernel
theorem dX9_bottle_82 : decode cX9_bottle 82 = .ok (.invokevirtual 127, 3) := by decide +kernel
theorem dX9_bottle_85 : decode cX9_bottle 85 = .ok (.invokespecial 180, 3) := by decide +kernel
theorem dX9_bottle_88 : decode cX9_bottle 88 = .ok (.aastore, 1) := by decide +kernel
theorem dX9_bottle_89 : decode cX9_bottle 89 = .ok (.aload_n 0, 1) := by decide +kernel
theorem dX9_bottle_90 : decode cX9_bottle 90 = .ok (.dup, 1) := by decide +kernel
theorem dX9_bottle_91 : decode cX9_bottle 91 = .ok (.getfield 177, 3) := by decide +kernel
theorem dX9_bottle_94 : decode cX9_bottle 94 = .ok (.iconst 1, 1) := by decide +kernel
theorem dX9_bottle_95 : decode cX9_bottle 95 = .ok (.iadd, 1) := by decide +kernel
theorem dX9_bottle_96 : decode cX9_bottle 96 = .ok (.putfield 177, 3) := by decide +kernel
theorem dX9_bottle_99 : decode cX9_bottle 99 = .ok (.aload_n 3, 1) := by decide +kernel
theorem dX9_bottle_100 : decode cX9_bottle 100 = .ok (.dup, 1) := by decide +kernel
theorem dX9_bottle_101 : decode cX9_bottle 101 = .ok (.getfield 115, 3) := by decide +kernel
theorem dX9_bottle_104 : decode cX9_bottle 104 = .ok (.iload_n 2, 1) := by decide +kernel
theorem dX9_bottle_105 : decode cX9_bottle 105 = .ok (.iadd, 1) := by decide +kernel
theorem dX9_bottle_106 : decode cX9_bottle 106 = .ok (.putfield 115, 3) := by decide +kernel
theorem dX9_bottle_109 : decode cX9_bottle 109 = .ok (.aload_n 0, 1) := by decide +kernel
theorem dX9_bottle_110 : decode cX9_bottle 110 = .ok (.dup, 1) := by decide +kernel
theorem dX9_bottle_111 : decode cX9_bottle 111 = .ok (.getfield 183, 3) := by decide +kernel
theorem dX9_bottle_114 : decode cX9_bottle 114 = .ok (.iload_n 2, 1) := by decide +kernel
theorem dX9_bottle_115 : decode cX9_bottle 115 = .ok (.i2l, 1) := by decide +kernel
theorem dX9_bottle_116 : decode cX9_bottle 116 = .ok (.aload_n 0, 1) := by decide +kernel
theorem dX9_bottle_117 : decode cX9_bottle 117 = .ok (.getfield 48, 3) := by decide +kernel
theorem dX9_bottle_120 : decode cX9_bottle 120 = .ok (.i2l, 1) := by decide +kernel
theorem dX9_bottle_121 : decode cX9_bottle 121 = .ok (.lmul, 1) := by decide +kernel
theorem dX9_bottle_122 : decode cX9_bottle 122 = .ok (.ladd, 1) := by decide +kernel
theorem dX9_bottle_123 : decode cX9_bottle 123 = .ok (.putfield 183, 3) := by decide +kernel
theorem dX9_bottle_126 : decode cX9_bottle 126 = .ok (.aload_n 0, 1) := by decide +kernel
theorem dX9_bottle_127 : decode cX9_bottle 127 = .ok (.getfield 44, 3) := by decide +kernel
theorem dX9_bottle_130 : decode cX9_bottle 130 = .ok (.aload_n 3, 1) := by decide +kernel
theorem dX9_bottle_131 : decode cX9_bottle 131 = .ok (.getfield 170, 3) := by decide +kernel
theorem dX9_bottle_134 : decode cX9_bottle 134 = .ok (.getfield 186, 3) := by decide +kernel
theorem dX9_bottle_137 : decode cX9_bottle 137 = .ok (.bipush 10, 2) := by decide +kernel
theorem dX9_bottle_139 : decode cX9_bottle 139 = .ok (.iload 5, 2) := by decide +kernel
theorem dX9_bottle_141 : decode cX9_bottle 141 = .ok (.iadd, 1) := by decide +kernel
theorem dX9_bottle_142 : decode cX9_bottle 142 = .ok (.iload_n 2, 1) := by decide +kernel
theorem dX9_bottle_143 : decode cX9_bottle 143 = .ok (.invokevirtual 135, 3) := by decide +kernel
theorem dX9_bottle_146 : decode cX9_bottle 146 = .ok (.iload 5, 2) := by decide +kernel
theorem dX9_bottle_148 : decode cX9_bottle 148 = .ok (.ireturn, 1) := by decide +kernel
theorem dX9_mayTakeStill_0 : decode cX9_mayTakeStill 0 = .ok (.aload_n 0, 1) := by decide +kernel
theorem dX9_mayTakeStill_1 : decode cX9_mayTakeStill 1 = .ok (.getfield 18, 3) := by decide +kernel
theorem dX9_mayTakeStill_4 : decode cX9_mayTakeStill 4 = .ok (.getfield 124, 3) := by decide +kernel
theorem dX9_mayTakeStill_7 : decode cX9_mayTakeStill 7 = .ok (.getfield 142, 3) := by decide +kernel
theorem dX9_mayTakeStill_10 : decode cX9_mayTakeStill 10 = .ok (.istore_n 2, 1) := by decide +kernel
theorem dX9_mayTakeStill_11 : decode cX9_mayTakeStill 11 = .ok (.aload_n 1, 1) := by decide +kernel
theorem dX9_mayTakeStill_12 : decode cX9_mayTakeStill 12 = .ok (.getfield 189, 3) := by decide +kernel
theorem dX9_mayTakeStill_15 : decode cX9_mayTakeStill 15 = .ok (.istore_n 3, 1) := by decide +kernel
theorem dX9_mayTakeStill_16 : decode cX9_mayTakeStill 16 = .ok (.iload_n 2, 1) := by decide +kernel
theorem dX9_mayTakeStill_17 : decode cX9_mayTakeStill 17 = .ok (.aload_n 0, 1) := by decide +kernel
theorem dX9_mayTakeStill_18 : decode cX9_mayTakeStill 18 = .ok (.getfield 163, 3) := by decide +kernel
theorem dX9_mayTakeStill_21 : decode cX9_mayTakeStill 21 = .ok (.if_icmp .ge 8, 3) := by decide +kernel
theorem dX9_mayTakeStill_24 : decode cX9_mayTakeStill 24 = .ok (.iconst 0, 1) := by decide +kernel
theorem dX9_mayTakeStill_25 : decode cX9_mayTakeStill 25 = .ok (.istore_n 3, 1) := by decide +kernel
theorem dX9_mayTakeStill_26 : decode cX9_mayTakeStill 26 = .ok (.goto 18, 3) := by decide +kernel
theorem dX9_mayTakeStill_29 : decode cX9_mayTakeStill 29 = .ok (.iload_n 2, 1) := by decide +kernel
theorem dX9_mayTakeStill_30 : decode cX9_mayTakeStill 30 = .ok (.aload_n 0, 1) := by decide +kernel
theorem dX9_mayTakeStill_31 : decode cX9_mayTakeStill 31 = .ok (.getfield 160, 3) := by decide +kernel
theorem dX9_mayTakeStill_34 : decode cX9_mayTakeStill 34 = .ok (.if_icmp .ge 10, 3) := by decide +kernel
theorem dX9_mayTakeStill_37 : decode cX9_mayTakeStill 37 = .ok (.aload_n 1, 1) := by decide +kernel
theorem dX9_mayTakeStill_38 : decode cX9_mayTakeStill 38 = .ok (.getfield 189, 3) := by decide +kernel
theorem dX9_mayTakeStill_41 : decode cX9_mayTakeStill 41 = .ok (.iconst 2, 1) := by decide +kernel
theorem dX9_mayTakeStill_42 : decode cX9_mayTakeStill 42 = .ok (.idiv, 1) := by decide +kernel
theorem dX9_mayTakeStill_43 : decode cX9_mayTakeStill 43 = .ok (.istore_n 3, 1) := by decide +kernel
theorem dX9_mayTakeStill_44 : decode cX9_mayTakeStill 44 = .ok (.iconst 0, 1) := by decide +kernel
theorem dX9_mayTakeStill_45 : decode cX9_mayTakeStill 45 = .ok (.iload_n 3, 1) := by decide +kernel
theorem dX9_mayTakeStill_46 : decode cX9_mayTakeStill 46 = .ok (.aload_n 1, 1) := by decide +kernel
theorem dX9_mayTakeStill_47 : decode cX9_mayTakeStill 47 = .ok (.getfield 115, 3) := by decide +kernel
theorem dX9_mayTakeStill_50 : decode cX9_mayTakeStill 50 = .ok (.isub, 1) := by decide +kernel
theorem dX9_mayTakeStill_51 : decode cX9_mayTakeStill 51 = .ok (.invokestatic 192, 3) := by decide +kernel
theorem dX9_mayTakeStill_54 : decode cX9_mayTakeStill 54 = .ok (.ireturn, 1) := by decide +kernel
theorem dX9_treat_0 : decode cX9_treat 0 = .ok (.aload_n 0, 1) := by decide +kernel
theorem dX9_treat_1 : decode cX9_treat 1 = .ok (.iload_n 1, 1) := by decide +kernel
theorem dX9_treat_2 : decode cX9_treat 2 = .ok (.invokevirtual 198, 3) := by decide +kernel
theorem dX9_treat_5 : decode cX9_treat 5 = .ok (.astore_n 3, 1) := by decide +kernel
theorem dX9_treat_6 : decode cX9_treat 6 = .ok (.iload_n 2, 1) := by decide +kernel
theorem dX9_treat_7 : decode cX9_treat 7 = .ok (.bipush 6, 2) := by decide +kernel
theorem dX9_treat_9 : decode cX9_treat 9 = .ok (.invokestatic 83, 3) := by decide +kernel
theorem dX9_treat_12 : decode cX9_treat 12 = .ok (.aload_n 3, 1) := by decide +kernel
theorem dX9_treat_13 : decode cX9_treat 13 = .ok (.getfield 202, 3) := by decide +kernel
theorem dX9_treat_16 : decode cX9_treat 16 = .ok (.iconst (-1), 1) := by decide +kernel
theorem dX9_treat_17 : decode cX9_treat 17 = .ok (.if_icmp .ne 7, 3) := by decide +kernel
theorem dX9_treat_20 : decode cX9_treat 20 = .ok (.iconst 1, 1) := by decide +kernel
theorem dX9_treat_21 : decode cX9_treat 21 = .ok (.goto 4, 3) := by decide +kernel
theorem dX9_treat_24 : decode cX9_treat 24 = .ok (.iconst 0, 1) := by decide +kernel
theorem dX9_treat_25 : decode cX9_treat 25 = .ok (.invokestatic 66, 3) := by decide +kernel
theorem dX9_treat_28 : decode cX9_treat 28 = .ok (.aload_n 3, 1) := by decide +kernel
theorem dX9_treat_29 : decode cX9_treat 29 = .ok (.dup, 1) := by decide +kernel
theorem dX9_treat_30 : decode cX9_treat 30 = .ok (.getfield 205, 3) := by decide +kernel
theorem dX9_treat_33 : decode cX9_treat 33 = .ok (.iconst 1, 1) := by decide +kernel
theorem dX9_treat_34 : decode cX9_treat 34 = .ok (.iload_n 2, 1) := by decide +kernel
theorem dX9_treat_35 : decode cX9_treat 35 = .ok (.ishl, 1) := by decide +kernel
theorem dX9_treat_36 : decode cX9_treat 36 = .ok (.ior, 1) := by decide +kernel
theorem dX9_treat_37 : decode cX9_treat 37 = .ok (.putfield 205, 3) := by decide +kernel
theorem dX9_treat_40 : decode cX9_treat 40 = .ok (.aload_n 3, 1) := by decide +kernel
theorem dX9_treat_41 : decode cX9_treat 41 = .ok (.getfield 205, 3) := by decide +kernel
theorem dX9_treat_44 : decode cX9_treat 44 = .ok (.ireturn, 1) := by decide +kernel
theorem dX9_label_0 : decode cX9_label 0 = .ok (.aload_n 0, 1) := by decide +kernel
theorem dX9_label_1 : decode cX9_label 1 = .ok (.iload_n 1, 1) := by decide +kernel
theorem dX9_label_2 : decode cX9_label 2 = .ok (.invokevirtual 198, 3) := by decide +kernel
theorem dX9_label_5 : decode cX9_label 5 = .ok (.astore_n 3, 1) := by decide +kernel
theorem dX9_label_6 : decode cX9_label 6 = .ok (.iload_n 2, 1) := by decide +kernel
theorem dX9_label_7 : decode cX9_label 7 = .ok (.iconst 0, 1) := by decide +kernel
theorem dX9_label_8 : decode cX9_label 8 = .ok (.iconst 2, 1) := by decide +kernel
theorem dX9_label_9 : decode cX9_label 9 = .ok (.invokestatic 56, 3) := by decide +kernel
theorem dX9_label_12 : decode cX9_label 12 = .ok (.aload_n 3, 1) := by decide +kernel
theorem dX9_label_13 : decode cX9_label 13 = .ok (.getfield 202, 3) := by decide +kernel
theorem dX9_label_16 : decode cX9_label 16 = .ok (.iconst (-1), 1) := by decide +kernel
theorem dX9_label_17 : decode cX9_label 17 = .ok (.if_icmp .ne 7, 3) := by decide +kernel
theorem dX9_label_20 : decode cX9_label 20 = .ok (.iconst 1, 1) := by decide +kernel
theorem dX9_label_21 : decode cX9_label 21 = .ok (.goto 4, 3) := by decide +kernel
theorem dX9_label_24 : decode cX9_label 24 = .ok (.iconst 0, 1) := by decide +kernel
theorem dX9_label_25 : decode cX9_label 25 = .ok (.invokestatic 66, 3) := by decide +kernel
theorem dX9_label_28 : decode cX9_label 28 = .ok (.aload_n 3, 1) := by decide +kernel
theorem dX9_label_29 : decode cX9_label 29 = .ok (.iload_n 2, 1) := by decide +kernel
theorem dX9_label_30 : decode cX9_label 30 = .ok (.putfield 202, 3) := by decide +kernel
theorem dX9_label_33 : decode cX9_label 33 = .ok (.aload_n 3, 1) := by decide +kernel
theorem dX9_label_34 : decode cX9_label 34 = .ok (.aload_n 3, 1) := by decide +kernel
theorem dX9_label_35 : decode cX9_label 35 = .ok (.iload_n 2, 1) := by decide +kernel
theorem dX9_label_36 : decode cX9_label 36 = .ok (.aload_n 0, 1) := by decide +kernel
theorem dX9_label_37 : decode cX9_label 37 = .ok (.getfield 208, 3) := by decide +kernel
theorem dX9_label_40 : decode cX9_label 40 = .ok (.invokevirtual 211, 3) := by decide +kernel
theorem dX9_label_43 : decode cX9_label 43 = .ok (.putfield 215, 3) := by decide +kernel
theorem dX9_label_46 : decode cX9_label 46 = .ok (.aload_n 3, 1) := by decide +kernel
theorem dX9_label_47 : decode cX9_label 47 = .ok (.getfield 215, 3) := by decide +kernel
theorem dX9_label_50 : decode cX9_label 50 = .ok (.ireturn, 1) := by decide +kernel
theorem dX9_forbid_0 : decode cX9_forbid 0 = .ok (.iload_n 1, 1) := by decide +kernel
theorem dX9_forbid_1 : decode cX9_forbid 1 = .ok (.bipush 6, 2) := by decide +kernel
theorem dX9_forbid_3 : decode cX9_forbid 3 = .ok (.invokestatic 83, 3) := by decide +kernel
theorem dX9_forbid_6 : decode cX9_forbid 6 = .ok (.iconst 1, 1) := by decide +kernel
theorem dX9_forbid_7 : decode cX9_forbid 7 = .ok (.iload_n 1, 1) := by decide +kernel
theorem dX9_forbid_8 : decode cX9_forbid 8 = .ok (.ishl, 1) := by decide +kernel
theorem dX9_forbid_9 : decode cX9_forbid 9 = .ok (.istore_n 2, 1) := by decide +kernel
theorem dX9_forbid_10 : decode cX9_forbid 10 = .ok (.aload_n 0, 1) := by decide +kernel
theorem dX9_forbid_11 : decode cX9_forbid 11 = .ok (.getfield 208, 3) := by decide +kernel
theorem dX9_forbid_14 : decode cX9_forbid 14 = .ok (.iload_n 2, 1) := by decide +kernel
theorem dX9_forbid_15 : decode cX9_forbid 15 = .ok (.iand, 1) := by decide +kernel
theorem dX9_forbid_16 : decode cX9_forbid 16 = .ok (.ifCond .ne 7, 3) := by decide +kernel
theorem dX9_forbid_19 : decode cX9_forbid 19 = .ok (.iconst 1, 1) := by decide +kernel
theorem dX9_forbid_20 : decode cX9_forbid 20 = .ok (.goto 4, 3) := by decide +kernel
theorem dX9_forbid_23 : decode cX9_forbid 23 = .ok (.iconst 0, 1) := by decide +kernel
theorem dX9_forbid_24 : decode cX9_forbid 24 = .ok (.invokestatic 66, 3) := by decide +kernel
theorem dX9_forbid_27 : decode cX9_forbid 27 = .ok (.aload_n 0, 1) := by decide +kernel
theorem dX9_forbid_28 : decode cX9_forbid 28 = .ok (.dup, 1) := by decide +kernel
theorem dX9_forbid_29 : decode cX9_forbid 29 = .ok (.getfield 208, 3) := by decide +kernel
theorem dX9_forbid_32 : decode cX9_forbid 32 = .ok (.iload_n 2, 1) := by decide +kernel
theorem dX9_forbid_33 : decode cX9_forbid 33 = .ok (.ior, 1) := by decide +kernel
theorem dX9_forbid_34 : decode cX9_forbid 34 = .ok (.putfield 208, 3) := by decide +kernel
theorem dX9_forbid_37 : decode cX9_forbid 37 = .ok (.iconst 0, 1) := by decide +kernel
theorem dX9_forbid_38 : decode cX9_forbid 38 = .ok (.istore_n 3, 1) := by decide +kernel
theorem dX9_forbid_39 : decode cX9_forbid 39 = .ok (.iconst 0, 1) := by decide +kernel
theorem dX9_forbid_40 : decode cX9_forbid 40 = .ok (.istore 4, 2) := by decide +kernel
theorem dX9_forbid_42 : decode cX9_forbid 42 = .ok (.iload 4, 2) := by decide +kernel
theorem dX9_forbid_44 : decode cX9_forbid 44 = .ok (.aload_n 0, 1) := by decide +kernel
theorem dX9_forbid_45 : decode cX9_forbid 45 = .ok (.getfield 177, 3) := by decide +kernel
theorem dX9_forbid_48 : decode cX9_forbid 48 = .ok (.if_icmp .ge 37, 3) := by decide +kernel
theorem dX9_forbid_51 : decode cX9_forbid 51 = .ok (.aload_n 0, 1) := by decide +kernel
theorem dX9_forbid_52 : decode cX9_forbid 52 = .ok (.getfield 30, 3) := by decide +kernel
theorem dX9_forbid_55 : decode cX9_forbid 55 = .ok (.iload 4, 2) := by decide +kernel
theorem dX9_forbid_57 : decode cX9_forbid 57 = .ok (.aaload, 1) := by decide +kernel
theorem dX9_forbid_58 : decode cX9_forbid 58 = .ok (.iload_n 2, 1) := by decide +kernel
theorem dX9_forbid_59 : decode cX9_forbid 59 = .ok (.invokevirtual 219, 3) := by decide +kernel
theorem dX9_forbid_62 : decode cX9_forbid 62 = .ok (.ifCond .eq 17, 3) := by decide +kernel
theorem dX9_forbid_65 : decode cX9_forbid 65 = .ok (.aload_n 0, 1) := by decide +kernel
theorem dX9_forbid_66 : decode cX9_forbid 66 = .ok (.getfield 30, 3) := by decide +kernel
theorem dX9_forbid_69 : decode cX9_forbid 69 = .ok (.iload 4, 2) := by decide +kernel
theorem dX9_forbid_71 : decode cX9_forbid 71 = .ok (.aaload, 1) := by decide +kernel
theorem dX9_forbid_72 : decode cX9_forbid 72 = .ok (.iconst 1, 1) := by decide +kernel
theorem dX9_forbid_73 : decode cX9_forbid 73 = .ok (.putfield 223, 3) := by decide +kernel
theorem dX9_forbid_76 : decode cX9_forbid 76 = .ok (.iinc 3 1, 3) := by decide +kernel
theorem dX9_forbid_79 : decode cX9_forbid 79 = .ok (.iinc 4 1, 3) := by decide +kernel
theorem dX9_forbid_82 : decode cX9_forbid 82 = .ok (.goto (-40), 3) := by decide +kernel
theorem dX9_forbid_85 : decode cX9_forbid 85 = .ok (.iload_n 3, 1) := by decide +kernel
theorem dX9_forbid_86 : decode cX9_forbid 86 = .ok (.ireturn, 1) := by decide +kernel
theorem dX9_year_0 : decode cX9_year 0 = .ok (.aload_n 0, 1) := by decide +kernel
theorem dX9_year_1 : decode cX9_year 1 = .ok (.getfield 96, 3) := by decide +kernel
theorem dX9_year_4 : decode cX9_year 4 = .ok (.ireturn, 1) := by decide +kernel
theorem dX9_cellOf_0 : decode cX9_cellOf 0 = .ok (.aload_n 0, 1) := by decide +kernel
theorem dX9_cellOf_1 : decode cX9_cellOf 1 = .ok (.iload_n 1, 1) := by decide +kernel
theorem dX9_cellOf_2 : decode cX9_cellOf 2 = .ok (.invokevirtual 52, 3) := by decide +kernel
theorem dX9_cellOf_5 : decode cX9_cellOf 5 = .ok (.astore_n 3, 1) := by decide +kernel
theorem dX9_cellOf_6 : decode cX9_cellOf 6 = .ok (.iload_n 2, 1) := by decide +kernel
theorem dX9_cellOf_7 : decode cX9_cellOf 7 = .ok (.iconst 0, 1) := by decide +kernel
theorem dX9_cellOf_8 : decode cX9_cellOf 8 = .ok (.bipush 6, 2) := by decide +kernel
theorem dX9_cellOf_10 : decode cX9_cellOf 10 = .ok (.invokestatic 56, 3) := by decide +kernel
theorem dX9_cellOf_13 : decode cX9_cellOf 13 = .ok (.iload_n 2, 1) := by decide +kernel
theorem dX9_cellOf_14 : decode cX9_cellOf 14 = .ok (.tableswitch 71 0 5 #[38, 46, 51, 56, 61, 66], 38) := by decide +kernel
theorem dX9_cellOf_52 : decode cX9_cellOf 52 = .ok (.aload_n 3, 1) := by decide +kernel
theorem dX9_cellOf_53 : decode cX9_cellOf 53 = .ok (.getfield 124, 3) := by decide +kernel
theorem dX9_cellOf_56 : decode cX9_cellOf 56 = .ok (.getfield 142, 3) := by decide +kernel
theorem dX9_cellOf_59 : decode cX9_cellOf 59 = .ok (.ireturn, 1) := by decide +kernel
theorem dX9_cellOf_60 : decode cX9_cellOf 60 = .ok (.aload_n 3, 1) := by decide +kernel
theorem dX9_cellOf_61 : decode cX9_cellOf 61 = .ok (.getfield 60, 3) := by decide +kernel
theorem dX9_cellOf_64 : decode cX9_cellOf 64 = .ok (.ireturn, 1) := by decide +kernel
theorem dX9_cellOf_65 : decode cX9_cellOf 65 = .ok (.aload_n 3, 1) := by decide +kernel
theorem dX9_cellOf_66 : decode cX9_cellOf 66 = .ok (.getfield 70, 3) := by decide +kernel
theorem dX9_cellOf_69 : decode cX9_cellOf 69 = .ok (.ireturn, 1) := by decide +kernel
theorem dX9_cellOf_70 : decode cX9_cellOf 70 = .ok (.aload_n 3, 1) := by decide +kernel
theorem dX9_cellOf_71 : decode cX9_cellOf 71 = .ok (.invokevirtual 76, 3) := by decide +kernel
theorem dX9_cellOf_74 : decode cX9_cellOf 74 = .ok (.ireturn, 1) := by decide +kernel
theorem dX9_cellOf_75 : decode cX9_cellOf 75 = .ok (.aload_n 3, 1) := by decide +kernel
theorem dX9_cellOf_76 : decode cX9_cellOf 76 = .ok (.invokevirtual 87, 3) := by decide +kernel
theorem dX9_cellOf_79 : decode cX9_cellOf 79 = .ok (.ireturn, 1) := by decide +kernel
theorem dX9_cellOf_80 : decode cX9_cellOf 80 = .ok (.aload_n 3, 1) := by decide +kernel
theorem dX9_cellOf_81 : decode cX9_cellOf 81 = .ok (.getfield 63, 3) := by decide +kernel
theorem dX9_cellOf_84 : decode cX9_cellOf 84 = .ok (.ireturn, 1) := by decide +kernel
theorem dX9_cellOf_85 : decode cX9_cellOf 85 = .ok (.aload_n 3, 1) := by decide +kernel
theorem dX9_cellOf_86 : decode cX9_cellOf 86 = .ok (.getfield 124, 3) := by decide +kernel
theorem dX9_cellOf_89 : decode cX9_cellOf 89 = .ok (.invokevirtual 226, 3) := by decide +kernel
theorem dX9_cellOf_92 : decode cX9_cellOf 92 = .ok (.ireturn, 1) := by decide +kernel
theorem dX9_flow_0 : decode cX9_flow 0 = .ok (.iload_n 1, 1) := by decide +kernel
theorem dX9_flow_1 : decode cX9_flow 1 = .ok (.iconst 0, 1) := by decide +kernel
theorem dX9_flow_2 : decode cX9_flow 2 = .ok (.iconst 3, 1) := by decide +kernel
theorem dX9_flow_3 : decode cX9_flow 3 = .ok (.invokestatic 56, 3) := by decide +kernel
theorem dX9_flow_6 : decode cX9_flow 6 = .ok (.iload_n 1, 1) := by decide +kernel
theorem dX9_flow_7 : decode cX9_flow 7 = .ok (.tableswitch 49 0 2 #[25, 33, 41], 25) := by decide +kernel
theorem dX9_flow_32 : decode cX9_flow 32 = .ok (.aload_n 0, 1) := by decide +kernel
theorem dX9_flow_33 : decode cX9_flow 33 = .ok (.getfield 37, 3) := by decide +kernel
theorem dX9_flow_36 : decode cX9_flow 36 = .ok (.getfield 142, 3) := by decide +kernel
theorem dX9_flow_39 : decode cX9_flow 39 = .ok (.ireturn, 1) := by decide +kernel
theorem dX9_flow_40 : decode cX9_flow 40 = .ok (.aload_n 0, 1) := by decide +kernel
theorem dX9_flow_41 : decode cX9_flow 41 = .ok (.getfield 37, 3) := by decide +kernel
theorem dX9_flow_44 : decode cX9_flow 44 = .ok (.invokevirtual 229, 3) := by decide +kernel
theorem dX9_flow_47 : decode cX9_flow 47 = .ok (.ireturn, 1) := by decide +kernel
theorem dX9_flow_48 : decode cX9_flow 48 = .ok (.aload_n 0, 1) := by decide +kernel
theorem dX9_flow_49 : decode cX9_flow 49 = .ok (.getfield 37, 3) := by decide +kernel
theorem dX9_flow_52 : decode cX9_flow 52 = .ok (.invokevirtual 232, 3) := by decide +kernel
theorem dX9_flow_55 : decode cX9_flow 55 = .ok (.ireturn, 1) := by decide +kernel
theorem dX9_flow_56 : decode cX9_flow 56 = .ok (.aload_n 0, 1) := by decide +kernel
theorem dX9_flow_57 : decode cX9_flow 57 = .ok (.getfield 37, 3) := by decide +kernel
theorem dX9_flow_60 : decode cX9_flow 60 = .ok (.invokevirtual 235, 3) := by decide +kernel
theorem dX9_flow_63 : decode cX9_flow 63 = .ok (.ireturn, 1) := by decide +kernel
theorem dX9_wellOf_0 : decode cX9_wellOf 0 = .ok (.aload_n 0, 1) := by decide +kernel
theorem dX9_wellOf_1 : decode cX9_wellOf 1 = .ok (.iload_n 1, 1) := by decide +kernel
theorem dX9_wellOf_2 : decode cX9_wellOf 2 = .ok (.invokevirtual 166, 3) := by decide +kernel
theorem dX9_wellOf_5 : decode cX9_wellOf 5 = .ok (.astore_n 3, 1) := by decide +kernel
theorem dX9_wellOf_6 : decode cX9_wellOf 6 = .ok (.iload_n 2, 1) := by decide +kernel
theorem dX9_wellOf_7 : decode cX9_wellOf 7 = .ok (.iconst 0, 1) := by decide +kernel
theorem dX9_wellOf_8 : decode cX9_wellOf 8 = .ok (.iconst 3, 1) := by decide +kernel
theorem dX9_wellOf_9 : decode cX9_wellOf 9 = .ok (.invokestatic 56, 3) := by decide +kernel
theorem dX9_wellOf_12 : decode cX9_wellOf 12 = .ok (.iload_n 2, 1) := by decide +kernel
theorem dX9_wellOf_13 : decode cX9_wellOf 13 = .ok (.tableswitch 45 0 2 #[27, 35, 40], 27) := by decide +kernel
theorem dX9_wellOf_40 : decode cX9_wellOf 40 = .ok (.aload_n 3, 1) := by decide +kernel
theorem dX9_wellOf_41 : decode cX9_wellOf 41 = .ok (.getfield 170, 3) := by decide +kernel
theorem dX9_wellOf_44 : decode cX9_wellOf 44 = .ok (.getfield 186, 3) := by decide +kernel
theorem dX9_wellOf_47 : decode cX9_wellOf 47 = .ok (.ireturn, 1) := by decide +kernel
theorem dX9_wellOf_48 : decode cX9_wellOf 48 = .ok (.aload_n 3, 1) := by decide +kernel
theorem dX9_wellOf_49 : decode cX9_wellOf 49 = .ok (.getfield 189, 3) := by decide +kernel
theorem dX9_wellOf_52 : decode cX9_wellOf 52 = .ok (.ireturn, 1) := by decide +kernel
theorem dX9_wellOf_53 : decode cX9_wellOf 53 = .ok (.aload_n 3, 1) := by decide +kernel
theorem dX9_wellOf_54 : decode cX9_wellOf 54 = .ok (.getfield 115, 3) := by decide +kernel
theorem dX9_wellOf_57 : decode cX9_wellOf 57 = .ok (.ireturn, 1) := by decide +kernel
theorem dX9_wellOf_58 : decode cX9_wellOf 58 = .ok (.aload_n 0, 1) := by decide +kernel
theorem dX9_wellOf_59 : decode cX9_wellOf 59 = .ok (.aload_n 3, 1) := by decide +kernel
theorem dX9_wellOf_60 : decode cX9_wellOf 60 = .ok (.invokevirtual 173, 3) := by decide +kernel
theorem dX9_wellOf_63 : decode cX9_wellOf 63 = .ok (.ireturn, 1) := by decide +kernel
theorem dX9_lotOf_0 : decode cX9_lotOf 0 = .ok (.aload_n 0, 1) := by decide +kernel
theorem dX9_lotOf_1 : decode cX9_lotOf 1 = .ok (.iload_n 1, 1) := by decide +kernel
theorem dX9_lotOf_2 : decode cX9_lotOf 2 = .ok (.invokevirtual 198, 3) := by decide +kernel
theorem dX9_lotOf_5 : decode cX9_lotOf 5 = .ok (.astore_n 3, 1) := by decide +kernel
theorem dX9_lotOf_6 : decode cX9_lotOf 6 = .ok (.iload_n 2, 1) := by decide +kernel
theorem dX9_lotOf_7 : decode cX9_lotOf 7 = .ok (.iconst 0, 1) := by decide +kernel
theorem dX9_lotOf_8 : decode cX9_lotOf 8 = .ok (.bipush 10, 2) := by decide +kernel
theorem dX9_lotOf_10 : decode cX9_lotOf 10 = .ok (.invokestatic 56, 3) := by decide +kernel
theorem dX9_lotOf_13 : decode cX9_lotOf 13 = .ok (.iload_n 2, 1) := by decide +kernel
theorem dX9_lotOf_14 : decode cX9_lotOf 14 = .ok (.tableswitch 113 0 9 #[54, 59, 67, 75, 80, 88, 93, 98, 103, 108], 54) := by decide +kernel
theorem dX9_lotOf_68 : decode cX9_lotOf 68 = .ok (.aload_n 3, 1) := by decide +kernel
theorem dX9_lotOf_69 : decode cX9_lotOf 69 = .ok (.getfield 238, 3) := by decide +kernel
theorem dX9_lotOf_72 : decode cX9_lotOf 72 = .ok (.ireturn, 1) := by decide +kernel
theorem dX9_lotOf_73 : decode cX9_lotOf 73 = .ok (.aload_n 3, 1) := by decide +kernel
theorem dX9_lotOf_74 : decode cX9_lotOf 74 = .ok (.getfield 241, 3) := by decide +kernel
theorem dX9_lotOf_77 : decode cX9_lotOf 77 = .ok (.getfield 142, 3) := by decide +kernel
theorem dX9_lotOf_80 : decode cX9_lotOf 80 = .ok (.ireturn, 1) := by decide +kernel
theorem dX9_lotOf_81 : decode cX9_lotOf 81 = .ok (.aload_n 3, 1) := by decide +kernel
theorem dX9_lotOf_82 : decode cX9_lotOf 82 = .ok (.getfield 241, 3) := by decide +kernel
theorem dX9_lotOf_85 : decode cX9_lotOf 85 = .ok (.invokevirtual 229, 3) := by decide +kernel
theorem dX9_lotOf_88 : decode cX9_lotOf 88 = .ok (.ireturn, 1) := by decide +kernel
theorem dX9_lotOf_89 : decode cX9_lotOf 89 = .ok (.aload_n 3, 1) := by decide +kernel
theorem dX9_lotOf_90 : decode cX9_lotOf 90 = .ok (.getfield 244, 3) := by decide +kernel
theorem dX9_lotOf_93 : decode cX9_lotOf 93 = .ok (.ireturn, 1) := by decide +kernel
theorem dX9_lotOf_94 : decode cX9_lotOf 94 = .ok (.aload_n 3, 1) := by decide +kernel
theorem dX9_lotOf_95 : decode cX9_lotOf 95 = .ok (.getfield 241, 3) := by decide +kernel
theorem dX9_lotOf_98 : decode cX9_lotOf 98 = .ok (.invokevirtual 232, 3) := by decide +kernel
theorem dX9_lotOf_101 : decode cX9_lotOf 101 = .ok (.ireturn, 1) := by decide +kernel
theorem dX9_lotOf_102 : decode cX9_lotOf 102 = .ok (.aload_n 3, 1) := by decide +kernel
theorem dX9_lotOf_103 : decode cX9_lotOf 103 = .ok (.invokevirtual 247, 3) := by decide +kernel
theorem dX9_lotOf_106 : decode cX9_lotOf 106 = .ok (.ireturn, 1) := by decide +kernel
theorem dX9_lotOf_107 : decode cX9_lotOf 107 = .ok (.aload_n 3, 1) := by decide +kernel
theorem dX9_lotOf_108 : decode cX9_lotOf 108 = .ok (.invokevirtual 250, 3) := by decide +kernel
theorem dX9_lotOf_111 : decode cX9_lotOf 111 = .ok (.ireturn, 1) := by decide +kernel
theorem dX9_lotOf_112 : decode cX9_lotOf 112 = .ok (.aload_n 3, 1) := by decide +kernel
theorem dX9_lotOf_113 : decode cX9_lotOf 113 = .ok (.getfield 205, 3) := by decide +kernel
theorem dX9_lotOf_116 : decode cX9_lotOf 116 = .ok (.ireturn, 1) := by decide +kernel
theorem dX9_lotOf_117 : decode cX9_lotOf 117 = .ok (.aload_n 3, 1) := by decide +kernel
theorem dX9_lotOf_118 : decode cX9_lotOf 118 = .ok (.getfield 202, 3) := by decide +kernel
theorem dX9_lotOf_121 : decode cX9_lotOf 121 = .ok (.ireturn, 1) := by decide +kernel
theorem dX9_lotOf_122 : decode cX9_lotOf 122 = .ok (.aload_n 3, 1) := by decide +kernel
theorem dX9_lotOf_123 : decode cX9_lotOf 123 = .ok (.invokevirtual 253, 3) := by decide +kernel
theorem dX9_lotOf_126 : decode cX9_lotOf 126 = .ok (.ireturn, 1) := by decide +kernel
theorem dX9_lotOf_127 : decode cX9_lotOf 127 = .ok (.aload_n 3, 1) := by decide +kernel
theorem dX9_lotOf_128 : decode cX9_lotOf 128 = .ok (.getfield 223, 3) := by decide +kernel
theorem dX9_lotOf_131 : decode cX9_lotOf 131 = .ok (.ifCond .eq 7, 3) := by decide +kernel
theorem dX9_lotOf_134 : decode cX9_lotOf 134 = .ok (.iconst 1, 1) := by decide +kernel
theorem dX9_lotOf_135 : decode cX9_lotOf 135 = .ok (.goto 4, 3) := by decide +kernel
theorem dX9_lotOf_138 : decode cX9_lotOf 138 = .ok (.iconst 0, 1) := by decide +kernel
theorem dX9_lotOf_139 : decode cX9_lotOf 139 = .ok (.ireturn, 1) := by decide +kernel
theorem dX9_age_0 : decode cX9_age 0 = .ok (.aload_n 0, 1) := by decide +kernel
theorem dX9_age_1 : decode cX9_age 1 = .ok (.iload_n 1, 1) := by decide +kernel
theorem dX9_age_2 : decode cX9_age 2 = .ok (.invokevirtual 198, 3) := by decide +kernel
theorem dX9_age_5 : decode cX9_age 5 = .ok (.invokevirtual 256, 3) := by decide +kernel
theorem dX9_age_8 : decode cX9_age 8 = .ok (.freturn, 1) := by decide +kernel
theorem dX9_best_0 : decode cX9_best 0 = .ok (.aload_n 0, 1) := by decide +kernel
theorem dX9_best_1 : decode cX9_best 1 = .ok (.iload_n 1, 1) := by decide +kernel
theorem dX9_best_2 : decode cX9_best 2 = .ok (.invokevirtual 198, 3) := by decide +kernel
theorem dX9_best_5 : decode cX9_best 5 = .ok (.astore_n 2, 1) := by decide +kernel
theorem dX9_best_6 : decode cX9_best 6 = .ok (.aload_n 2, 1) := by decide +kernel
theorem dX9_best_7 : decode cX9_best 7 = .ok (.iconst 0, 1) := by decide +kernel
theorem dX9_best_8 : decode cX9_best 8 = .ok (.aload_n 0, 1) := by decide +kernel
theorem dX9_best_9 : decode cX9_best 9 = .ok (.getfield 208, 3) := by decide +kernel
theorem dX9_best_12 : decode cX9_best 12 = .ok (.invokevirtual 211, 3) := by decide +kernel
theorem dX9_best_15 : decode cX9_best 15 = .ok (.ifCond .eq 5, 3) := by decide +kernel
theorem dX9_best_18 : decode cX9_best 18 = .ok (.iconst 0, 1) := by decide +kernel
theorem dX9_best_19 : decode cX9_best 19 = .ok (.ireturn, 1) := by decide +kernel
theorem dX9_best_20 : decode cX9_best 20 = .ok (.aload_n 2, 1) := by decide +kernel
theorem dX9_best_21 : decode cX9_best 21 = .ok (.iconst 1, 1) := by decide +kernel
theorem dX9_best_22 : decode cX9_best 22 = .ok (.aload_n 0, 1) := by decide +kernel
theorem dX9_best_23 : decode cX9_best 23 = .ok (.getfield 208, 3) := by decide +kernel
theorem dX9_best_26 : decode cX9_best 26 = .ok (.invokevirtual 211, 3) := by decide +kernel
theorem dX9_best_29 : decode cX9_best 29 = .ok (.ifCond .eq 7, 3) := by decide +kernel
theorem dX9_best_32 : decode cX9_best 32 = .ok (.iconst 1, 1) := by decide +kernel
theorem dX9_best_33 : decode cX9_best 33 = .ok (.goto 4, 3) := by decide +kernel
theorem dX9_best_36 : decode cX9_best 36 = .ok (.iconst 2, 1) := by decide +kernel
theorem dX9_best_37 : decode cX9_best 37 = .ok (.ireturn, 1) := by decide +kernel
theorem dX9_from_0 : decode cX9_from 0 = .ok (.aload_n 0, 1) := by decide +kernel
theorem dX9_from_1 : decode cX9_from 1 = .ok (.iload_n 1, 1) := by decide +kernel
theorem dX9_from_2 : decode cX9_from 2 = .ok (.invokevirtual 198, 3) := by decide +kernel
theorem dX9_from_5 : decode cX9_from 5 = .ok (.astore 4, 2) := by decide +kernel
theorem dX9_from_7 : decode cX9_from 7 = .ok (.iload_n 2, 1) := by decide +kernel
theorem dX9_from_8 : decode cX9_from 8 = .ok (.bipush 10, 2) := by decide +kernel
theorem dX9_from_10 : decode cX9_from 10 = .ok (.invokestatic 83, 3) := by decide +kernel
theorem dX9_from_13 : decode cX9_from 13 = .ok (.aload 4, 2) := by decide +kernel
theorem dX9_from_15 : decode cX9_from 15 = .ok (.getfield 241, 3) := by decide +kernel
theorem dX9_from_18 : decode cX9_from 18 = .ok (.iload_n 2, 1) := by decide +kernel
theorem dX9_from_19 : decode cX9_from 19 = .ok (.iload_n 3, 1) := by decide +kernel
theorem dX9_from_20 : decode cX9_from 20 = .ok (.invokevirtual 260, 3) := by decide +kernel
theorem dX9_from_23 : decode cX9_from 23 = .ok (.ireturn, 1) := by decide +kernel
theorem dX9_fromAnew_0 : decode cX9_fromAnew 0 = .ok (.iload_n 1, 1) := by decide +kernel
theorem dX9_fromAnew_1 : decode cX9_fromAnew 1 = .ok (.aload_n 0, 1) := by decide +kernel
theorem dX9_fromAnew_2 : decode cX9_fromAnew 2 = .ok (.getfield 177, 3) := by decide +kernel
theorem dX9_fromAnew_5 : decode cX9_fromAnew 5 = .ok (.invokestatic 83, 3) := by decide +kernel
theorem dX9_fromAnew_8 : decode cX9_fromAnew 8 = .ok (.iload_n 2, 1) := by decide +kernel
theorem dX9_fromAnew_9 : decode cX9_fromAnew 9 = .ok (.bipush 10, 2) := by decide +kernel
theorem dX9_fromAnew_11 : decode cX9_fromAnew 11 = .ok (.invokestatic 83, 3) := by decide +kernel
theorem dX9_fromAnew_14 : decode cX9_fromAnew 14 = .ok (.aload_n 0, 1) := by decide +kernel
theorem dX9_fromAnew_15 : decode cX9_fromAnew 15 = .ok (.getfield 44, 3) := by decide +kernel
theorem dX9_fromAnew_18 : decode cX9_fromAnew 18 = .ok (.iload_n 2, 1) := by decide +kernel
theorem dX9_fromAnew_19 : decode cX9_fromAnew 19 = .ok (.iload_n 3, 1) := by decide +kernel
theorem dX9_fromAnew_20 : decode cX9_fromAnew 20 = .ok (.bipush 10, 2) := by decide +kernel
theorem dX9_fromAnew_22 : decode cX9_fromAnew 22 = .ok (.iload_n 1, 1) := by decide +kernel
theorem dX9_fromAnew_23 : decode cX9_fromAnew 23 = .ok (.iadd, 1) := by decide +kernel
theorem dX9_fromAnew_24 : decode cX9_fromAnew 24 = .ok (.invokevirtual 263, 3) := by decide +kernel
theorem dX9_fromAnew_27 : decode cX9_fromAnew 27 = .ok (.ireturn, 1) := by decide +kernel
theorem dX9_whence_0 : decode cX9_whence 0 = .ok (.aload_n 0, 1) := by decide +kernel
theorem dX9_whence_1 : decode cX9_whence 1 = .ok (.iload_n 1, 1) := by decide +kernel
theorem dX9_whence_2 : decode cX9_whence 2 = .ok (.invokevirtual 198, 3) := by decide +kernel
theorem dX9_whence_5 : decode cX9_whence 5 = .ok (.astore_n 3, 1) := by decide +kernel
theorem dX9_whence_6 : decode cX9_whence 6 = .ok (.iload_n 2, 1) := by decide +kernel
theorem dX9_whence_7 : decode cX9_whence 7 = .ok (.bipush 8, 2) := by decide +kernel
theorem dX9_whence_9 : decode cX9_whence 9 = .ok (.invokestatic 83, 3) := by decide +kernel
theorem dX9_whence_12 : decode cX9_whence 12 = .ok (.aload_n 3, 1) := by decide +kernel
theorem dX9_whence_13 : decode cX9_whence 13 = .ok (.getfield 241, 3) := by decide +kernel
theorem dX9_whence_16 : decode cX9_whence 16 = .ok (.iconst 1, 1) := by decide +kernel
theorem dX9_whence_17 : decode cX9_whence 17 = .ok (.iload_n 2, 1) := by decide +kernel
theorem dX9_whence_18 : decode cX9_whence 18 = .ok (.ishl, 1) := by decide +kernel
theorem dX9_whence_19 : decode cX9_whence 19 = .ok (.invokevirtual 267, 3) := by decide +kernel
theorem dX9_whence_22 : decode cX9_whence 22 = .ok (.astore 4, 2) := by decide +kernel
theorem dX9_whence_24 : decode cX9_whence 24 = .ok (.aload 4, 2) := by decide +kernel
theorem dX9_whence_26 : decode cX9_whence 26 = .ok (.ifnonnull 7, 3) := by decide +kernel
theorem dX9_whence_29 : decode cX9_whence 29 = .ok (.iconst (-1), 1) := by decide +kernel
theorem dX9_whence_30 : decode cX9_whence 30 = .ok (.goto 18, 3) := by decide +kernel
theorem dX9_whence_33 : decode cX9_whence 33 = .ok (.sipush 1000, 3) := by decide +kernel
theorem dX9_whence_36 : decode cX9_whence 36 = .ok (.aload 4, 2) := by decide +kernel
theorem dX9_whence_38 : decode cX9_whence 38 = .ok (.getfield 270, 3) := by decide +kernel
theorem dX9_whence_41 : decode cX9_whence 41 = .ok (.imul, 1) := by decide +kernel
theorem dX9_whence_42 : decode cX9_whence 42 = .ok (.aload 4, 2) := by decide +kernel
theorem dX9_whence_44 : decode cX9_whence 44 = .ok (.getfield 274, 3) := by decide +kernel
theorem dX9_whence_47 : decode cX9_whence 47 = .ok (.iadd, 1) := by decide +kernel
theorem dX9_whence_48 : decode cX9_whence 48 = .ok (.ireturn, 1) := by decide +kernel
theorem dX9_sum_0 : decode cX9_sum 0 = .ok (.iload_n 1, 1) := by decide +kernel
theorem dX9_sum_1 : decode cX9_sum 1 = .ok (.iconst 0, 1) := by decide +kernel
theorem dX9_sum_2 : decode cX9_sum 2 = .ok (.bipush 6, 2) := by decide +kernel
theorem dX9_sum_4 : decode cX9_sum 4 = .ok (.invokestatic 56, 3) := by decide +kernel
theorem dX9_sum_7 : decode cX9_sum 7 = .ok (.iload_n 1, 1) := by decide +kernel
theorem dX9_sum_8 : decode cX9_sum 8 = .ok (.tableswitch 70 0 5 #[40, 45, 50, 55, 60, 65], 40) := by decide +kernel
theorem dX9_sum_48 : decode cX9_sum 48 = .ok (.aload_n 0, 1) := by decide +kernel
theorem dX9_sum_49 : decode cX9_sum 49 = .ok (.getfield 148, 3) := by decide +kernel
theorem dX9_sum_52 : decode cX9_sum 52 = .ok (.lreturn, 1) := by decide +kernel
theorem dX9_sum_53 : decode cX9_sum 53 = .ok (.aload_n 0, 1) := by decide +kernel
theorem dX9_sum_54 : decode cX9_sum 54 = .ok (.invokevirtual 277, 3) := by decide +kernel
theorem dX9_sum_57 : decode cX9_sum 57 = .ok (.lreturn, 1) := by decide +kernel
theorem dX9_sum_58 : decode cX9_sum 58 = .ok (.aload_n 0, 1) := by decide +kernel
theorem dX9_sum_59 : decode cX9_sum 59 = .ok (.getfield 138, 3) := by decide +kernel
theorem dX9_sum_62 : decode cX9_sum 62 = .ok (.lreturn, 1) := by decide +kernel
theorem dX9_sum_63 : decode cX9_sum 63 = .ok (.aload_n 0, 1) := by decide +kernel
theorem dX9_sum_64 : decode cX9_sum 64 = .ok (.invokevirtual 281, 3) := by decide +kernel
theorem dX9_sum_67 : decode cX9_sum 67 = .ok (.lreturn, 1) := by decide +kernel
theorem dX9_sum_68 : decode cX9_sum 68 = .ok (.aload_n 0, 1) := by decide +kernel
theorem dX9_sum_69 : decode cX9_sum 69 = .ok (.getfield 153, 3) := by decide +kernel
theorem dX9_sum_72 : decode cX9_sum 72 = .ok (.lreturn, 1) := by decide +kernel
theorem dX9_sum_73 : decode cX9_sum 73 = .ok (.aload_n 0, 1) := by decide +kernel
theorem dX9_sum_74 : decode cX9_sum 74 = .ok (.getfield 183, 3) := by decide +kernel
theorem dX9_sum_77 : decode cX9_sum 77 = .ok (.lreturn, 1) := by decide +kernel
theorem dX9_sum_78 : decode cX9_sum 78 = .ok (.aload_n 0, 1) := by decide +kernel
theorem dX9_sum_79 : decode cX9_sum 79 = .ok (.invokevirtual 284, 3) := by decide +kernel
theorem dX9_sum_82 : decode cX9_sum 82 = .ok (.lreturn, 1) := by decide +kernel
theorem dX9_unitsInCells_0 : decode cX9_unitsInCells 0 = .ok (.lconst 0, 1) := by decide +kernel
theorem dX9_unitsInCells_1 : decode cX9_unitsInCells 1 = .ok (.lstore_n 1, 1) := by decide +kernel
theorem dX9_unitsInCells_2 : decode cX9_unitsInCells 2 = .ok (.iconst 0, 1) := by decide +kernel
theorem dX9_unitsInCells_3 : decode cX9_unitsInCells 3 = .ok (.istore_n 3, 1) := by decide +kernel
theorem dX9_unitsInCells_4 : decode cX9_unitsInCells 4 = .ok (.iload_n 3, 1) := by decide +kernel
theorem dX9_unitsInCells_5 : decode cX9_unitsInCells 5 = .ok (.bipush 10, 2) := by decide +kernel
theorem dX9_unitsInCells_7 : decode cX9_unitsInCells 7 = .ok (.if_icmp .ge 25, 3) := by decide +kernel
theorem dX9_unitsInCells_10 : decode cX9_unitsInCells 10 = .ok (.lload_n 1, 1) := by decide +kernel
theorem dX9_unitsInCells_11 : decode cX9_unitsInCells 11 = .ok (.aload_n 0, 1) := by decide +kernel
theorem dX9_unitsInCells_12 : decode cX9_unitsInCells 12 = .ok (.getfield 11, 3) := by decide +kernel
theorem dX9_unitsInCells_15 : decode cX9_unitsInCells 15 = .ok (.iload_n 3, 1) := by decide +kernel
theorem dX9_unitsInCells_16 : decode cX9_unitsInCells 16 = .ok (.aaload, 1) := by decide +kernel
theorem dX9_unitsInCells_17 : decode cX9_unitsInCells 17 = .ok (.getfield 124, 3) := by decide +kernel
theorem dX9_unitsInCells_20 : decode cX9_unitsInCells 20 = .ok (.getfield 142, 3) := by decide +kernel
theorem dX9_unitsInCells_23 : decode cX9_unitsInCells 23 = .ok (.i2l, 1) := by decide +kernel
theorem dX9_unitsInCells_24 : decode cX9_unitsInCells 24 = .ok (.ladd, 1) := by decide +kernel
theorem dX9_unitsInCells_25 : decode cX9_unitsInCells 25 = .ok (.lstore_n 1, 1) := by decide +kernel
theorem dX9_unitsInCells_26 : decode cX9_unitsInCells 26 = .ok (.iinc 3 1, 3) := by decide +kernel
theorem dX9_unitsInCells_29 : decode cX9_unitsInCells 29 = .ok (.goto (-25), 3) := by decide +kernel
theorem dX9_unitsInCells_32 : decode cX9_unitsInCells 32 = .ok (.lload_n 1, 1) := by decide +kernel
theorem dX9_unitsInCells_33 : decode cX9_unitsInCells 33 = .ok (.lreturn, 1) := by decide +kernel
theorem dX9_unitsBottled_0 : decode cX9_unitsBottled 0 = .ok (.lconst 0, 1) := by decide +kernel
theorem dX9_unitsBottled_1 : decode cX9_unitsBottled 1 = .ok (.lstore_n 1, 1) := by decide +kernel
theorem dX9_unitsBottled_2 : decode cX9_unitsBottled 2 = .ok (.iconst 0, 1) := by decide +kernel
theorem dX9_unitsBottled_3 : decode cX9_unitsBottled 3 = .ok (.istore_n 3, 1) := by decide +kernel
theorem dX9_unitsBottled_4 : decode cX9_unitsBottled 4 = .ok (.iload_n 3, 1) := by decide +kernel
theorem dX9_unitsBottled_5 : decode cX9_unitsBottled 5 = .ok (.aload_n 0, 1) := by decide +kernel
theorem dX9_unitsBottled_6 : decode cX9_unitsBottled 6 = .ok (.getfield 177, 3) := by decide +kernel
theorem dX9_unitsBottled_9 : decode cX9_unitsBottled 9 = .ok (.if_icmp .ge 25, 3) := by decide +kernel
theorem dX9_unitsBottled_12 : decode cX9_unitsBottled 12 = .ok (.lload_n 1, 1) := by decide +kernel
theorem dX9_unitsBottled_13 : decode cX9_unitsBottled 13 = .ok (.aload_n 0, 1) := by decide +kernel
theorem dX9_unitsBottled_14 : decode cX9_unitsBottled 14 = .ok (.getfield 30, 3) := by decide +kernel
theorem dX9_unitsBottled_17 : decode cX9_unitsBottled 17 = .ok (.iload_n 3, 1) := by decide +kernel
theorem dX9_unitsBottled_18 : decode cX9_unitsBottled 18 = .ok (.aaload, 1) := by decide +kernel
theorem dX9_unitsBottled_19 : decode cX9_unitsBottled 19 = .ok (.getfield 241, 3) := by decide +kernel
theorem dX9_unitsBottled_22 : decode cX9_unitsBottled 22 = .ok (.getfield 142, 3) := by decide +kernel
theorem dX9_unitsBottled_25 : decode cX9_unitsBottled 25 = .ok (.i2l, 1) := by decide +kernel
theorem dX9_unitsBottled_26 : decode cX9_unitsBottled 26 = .ok (.ladd, 1) := by decide +kernel
theorem dX9_unitsBottled_27 : decode cX9_unitsBottled 27 = .ok (.lstore_n 1, 1) := by decide +kernel
theorem dX9_unitsBottled_28 : decode cX9_unitsBottled 28 = .ok (.iinc 3 1, 3) := by decide +kernel
theorem dX9_unitsBottled_31 : decode cX9_unitsBottled 31 = .ok (.goto (-27), 3) := by decide +kernel
theorem dX9_unitsBottled_34 : decode cX9_unitsBottled 34 = .ok (.lload_n 1, 1) := by decide +kernel
theorem dX9_unitsBottled_35 : decode cX9_unitsBottled 35 = .ok (.lreturn, 1) := by decide +kernel
theorem dX9_falseLabels_0 : decode cX9_falseLabels 0 = .ok (.lconst 0, 1) := by decide +kernel
theorem dX9_falseLabels_1 : decode cX9_falseLabels 1 = .ok (.lstore_n 1, 1) := by decide +kernel
theorem dX9_falseLabels_2 : decode cX9_falseLabels 2 = .ok (.iconst 0, 1) := by decide +kernel
theorem dX9_falseLabels_3 : decode cX9_falseLabels 3 = .ok (.istore_n 3, 1) := by decide +kernel
theorem dX9_falseLabels_4 : decode cX9_falseLabels 4 = .ok (.iload_n 3, 1) := by decide +kernel
theorem dX9_falseLabels_5 : decode cX9_falseLabels 5 = .ok (.aload_n 0, 1) := by decide +kernel
theorem dX9_falseLabels_6 : decode cX9_falseLabels 6 = .ok (.getfield 177, 3) := by decide +kernel
theorem dX9_falseLabels_9 : decode cX9_falseLabels 9 = .ok (.if_icmp .ge 25, 3) := by decide +kernel
theorem dX9_falseLabels_12 : decode cX9_falseLabels 12 = .ok (.aload_n 0, 1) := by decide +kernel
theorem dX9_falseLabels_13 : decode cX9_falseLabels 13 = .ok (.getfield 30, 3) := by decide +kernel
theorem dX9_falseLabels_16 : decode cX9_falseLabels 16 = .ok (.iload_n 3, 1) := by decide +kernel
theorem dX9_falseLabels_17 : decode cX9_falseLabels 17 = .ok (.aaload, 1) := by decide +kernel
theorem dX9_falseLabels_18 : decode cX9_falseLabels 18 = .ok (.invokevirtual 253, 3) := by decide +kernel
theorem dX9_falseLabels_21 : decode cX9_falseLabels 21 = .ok (.ifCond .ne 7, 3) := by decide +kernel
theorem dX9_falseLabels_24 : decode cX9_falseLabels 24 = .ok (.lload_n 1, 1) := by decide +kernel
theorem dX9_falseLabels_25 : decode cX9_falseLabels 25 = .ok (.lconst 1, 1) := by decide +kernel
theorem dX9_falseLabels_26 : decode cX9_falseLabels 26 = .ok (.ladd, 1) := by decide +kernel
theorem dX9_falseLabels_27 : decode cX9_falseLabels 27 = .ok (.lstore_n 1, 1) := by decide +kernel
theorem dX9_falseLabels_28 : decode cX9_falseLabels 28 = .ok (.iinc 3 1, 3) := by decide +kernel
theorem dX9_falseLabels_31 : decode cX9_falseLabels 31 = .ok (.goto (-27), 3) := by decide +kernel
theorem dX9_falseLabels_34 : decode cX9_falseLabels 34 = .ok (.lload_n 1, 1) := by decide +kernel
theorem dX9_falseLabels_35 : decode cX9_falseLabels 35 = .ok (.lreturn, 1) := by decide +kernel
theorem dX9_cellAt_0 : decode cX9_cellAt 0 = .ok (.iload_n 1, 1) := by decide +kernel
theorem dX9_cellAt_1 : decode cX9_cellAt 1 = .ok (.bipush 10, 2) := by decide +kernel
theorem dX9_cellAt_3 : decode cX9_cellAt 3 = .ok (.invokestatic 83, 3) := by decide +kernel
theorem dX9_cellAt_6 : decode cX9_cellAt 6 = .ok (.aload_n 0, 1) := by decide +kernel
theorem dX9_cellAt_7 : decode cX9_cellAt 7 = .ok (.getfield 11, 3) := by decide +kernel
theorem dX9_cellAt_10 : decode cX9_cellAt 10 = .ok (.iload_n 1, 1) := by decide +kernel
theorem dX9_cellAt_11 : decode cX9_cellAt 11 = .ok (.aaload, 1) := by decide +kernel
theorem dX9_cellAt_12 : decode cX9_cellAt 12 = .ok (.areturn, 1) := by decide +kernel
theorem dX9_wellAt_0 : decode cX9_wellAt 0 = .ok (.iload_n 1, 1) := by decide +kernel
theorem dX9_wellAt_1 : decode cX9_wellAt 1 = .ok (.aload_n 0, 1) := by decide +kernel
theorem dX9_wellAt_2 : decode cX9_wellAt 2 = .ok (.getfield 112, 3) := by decide +kernel
theorem dX9_wellAt_5 : decode cX9_wellAt 5 = .ok (.invokestatic 83, 3) := by decide +kernel
theorem dX9_wellAt_8 : decode cX9_wellAt 8 = .ok (.aload_n 0, 1) := by decide +kernel
theorem dX9_wellAt_9 : decode cX9_wellAt 9 = .ok (.getfield 24, 3) := by decide +kernel
theorem dX9_wellAt_12 : decode cX9_wellAt 12 = .ok (.iload_n 1, 1) := by decide +kernel
theorem dX9_wellAt_13 : decode cX9_wellAt 13 = .ok (.aaload, 1) := by decide +kernel
theorem dX9_wellAt_14 : decode cX9_wellAt 14 = .ok (.areturn, 1) := by decide +kernel
theorem dX9_lotAt_0 : decode cX9_lotAt 0 = .ok (.iload_n 1, 1) := by decide +kernel
theorem dX9_lotAt_1 : decode cX9_lotAt 1 = .ok (.aload_n 0, 1) := by decide +kernel
theorem dX9_lotAt_2 : decode cX9_lotAt 2 = .ok (.getfield 177, 3) := by decide +kernel
theorem dX9_lotAt_5 : decode cX9_lotAt 5 = .ok (.invokestatic 83, 3) := by decide +kernel
theorem dX9_lotAt_8 : decode cX9_lotAt 8 = .ok (.aload_n 0, 1) := by decide +kernel
theorem dX9_lotAt_9 : decode cX9_lotAt 9 = .ok (.getfield 30, 3) := by decide +kernel
theorem dX9_lotAt_12 : decode cX9_lotAt 12 = .ok (.iload_n 1, 1) := by decide +kernel
theorem dX9_lotAt_13 : decode cX9_lotAt 13 = .ok (.aaload, 1) := by decide +kernel
theorem dX9_lotAt_14 : decode cX9_lotAt 14 = .ok (.areturn, 1) := by decide +kernel
theorem dX9_needIndex_0 : decode cX9_needIndex 0 = .ok (.iload_n 0, 1) := by decide +kernel
theorem dX9_needIndex_1 : decode cX9_needIndex 1 = .ok (.ifCond .lt 8, 3) := by decide +kernel
theorem dX9_needIndex_4 : decode cX9_needIndex 4 = .ok (.iload_n 0, 1) := by decide +kernel
theorem dX9_needIndex_5 : decode cX9_needIndex 5 = .ok (.iload_n 1, 1) := by decide +kernel
theorem dX9_needIndex_6 : decode cX9_needIndex 6 = .ok (.if_icmp .lt 14, 3) := by decide +kernel
theorem dX9_needIndex_9 : decode cX9_needIndex 9 = .ok (.new 287, 3) := by decide +kernel
theorem dX9_needIndex_12 : decode cX9_needIndex 12 = .ok (.dup, 1) := by decide +kernel
theorem dX9_needIndex_13 : decode cX9_needIndex 13 = .ok (.ldc_w 289, 3) := by decide +kernel
theorem dX9_needIndex_16 : decode cX9_needIndex 16 = .ok (.invokespecial 291, 3) := by decide +kernel
theorem dX9_needIndex_19 : decode cX9_needIndex 19 = .ok (.athrow, 1) := by decide +kernel
theorem dX9_needIndex_20 : decode cX9_needIndex 20 = .ok (.return_, 1) := by decide +kernel
theorem dX9_needRange_0 : decode cX9_needRange 0 = .ok (.iload_n 0, 1) := by decide +kernel
theorem dX9_needRange_1 : decode cX9_needRange 1 = .ok (.iload_n 1, 1) := by decide +kernel
theorem dX9_needRange_2 : decode cX9_needRange 2 = .ok (.if_icmp .lt 12, 3) := by decide +kernel
theorem dX9_needRange_5 : decode cX9_needRange 5 = .ok (.iload_n 0, 1) := by decide +kernel
theorem dX9_needRange_6 : decode cX9_needRange 6 = .ok (.iload_n 2, 1) := by decide +kernel
theorem dX9_needRange_7 : decode cX9_needRange 7 = .ok (.if_icmp .gt 7, 3) := by decide +kernel
theorem dX9_needRange_10 : decode cX9_needRange 10 = .ok (.iconst 1, 1) := by decide +kernel
theorem dX9_needRange_11 : decode cX9_needRange 11 = .ok (.goto 4, 3) := by decide +kernel
theorem dX9_needRange_14 : decode cX9_needRange 14 = .ok (.iconst 0, 1) := by decide +kernel
theorem dX9_needRange_15 : decode cX9_needRange 15 = .ok (.invokestatic 73, 3) := by decide +kernel
theorem dX9_needRange_18 : decode cX9_needRange 18 = .ok (.return_, 1) := by decide +kernel
theorem dX9_needArgument_0 : decode cX9_needArgument 0 = .ok (.iload_n 0, 1) := by decide +kernel
theorem dX9_needArgument_1 : decode cX9_needArgument 1 = .ok (.ifCond .ne 14, 3) := by decide +kernel
theorem dX9_needArgument_4 : decode cX9_needArgument 4 = .ok (.new 294, 3) := by decide +kernel
theorem dX9_needArgument_7 : decode cX9_needArgument 7 = .ok (.dup, 1) := by decide +kernel
theorem dX9_needArgument_8 : decode cX9_needArgument 8 = .ok (.ldc_w 296, 3) := by decide +kernel
theorem dX9_needArgument_11 : decode cX9_needArgument 11 = .ok (.invokespecial 298, 3) := by decide +kernel
theorem dX9_needArgument_14 : decode cX9_needArgument 14 = .ok (.athrow, 1) := by decide +kernel
theorem dX9_needArgument_15 : decode cX9_needArgument 15 = .ok (.return_, 1) := by decide +kernel
theorem dX9_needState_0 : decode cX9_needState 0 = .ok (.iload_n 0, 1) := by decide +kernel
theorem dX9_needState_1 : decode cX9_needState 1 = .ok (.ifCond .ne 14, 3) := by decide +kernel
theorem dX9_needState_4 : decode cX9_needState 4 = .ok (.new 299, 3) := by decide +kernel
theorem dX9_needState_7 : decode cX9_needState 7 = .ok (.dup, 1) := by decide +kernel
theorem dX9_needState_8 : decode cX9_needState 8 = .ok (.ldc_w 301, 3) := by decide +kernel
theorem dX9_needState_11 : decode cX9_needState 11 = .ok (.invokespecial 303, 3) := by decide +kernel
theorem dX9_needState_14 : decode cX9_needState 14 = .ok (.athrow, 1) := by decide +kernel
theorem dX9_needState_15 : decode cX9_needState 15 = .ok (.return_, 1) := by decide +kernel
theorem dJ9_max_7cf53_0 : decode cJ9_max_7cf53 0 = .ok (.iload_n 0, 1) := by decide +kernel
theorem dJ9_max_7cf53_1 : decode cJ9_max_7cf53 1 = .ok (.iload_n 1, 1) := by decide +kernel
theorem dJ9_max_7cf53_2 : decode cJ9_max_7cf53 2 = .ok (.if_icmp .lt 7, 3) := by decide +kernel
theorem dJ9_max_7cf53_5 : decode cJ9_max_7cf53 5 = .ok (.iload_n 0, 1) := by decide +kernel
theorem dJ9_max_7cf53_6 : decode cJ9_max_7cf53 6 = .ok (.goto 4, 3) := by decide +kernel
theorem dJ9_max_7cf53_9 : decode cJ9_max_7cf53 9 = .ok (.iload_n 1, 1) := by decide +kernel
theorem dJ9_max_7cf53_10 : decode cJ9_max_7cf53 10 = .ok (.ireturn, 1) := by decide +kernel
theorem dJ9_min_7cf53_0 : decode cJ9_min_7cf53 0 = .ok (.iload_n 0, 1) := by decide +kernel
theorem dJ9_min_7cf53_1 : decode cJ9_min_7cf53 1 = .ok (.iload_n 1, 1) := by decide +kernel
theorem dJ9_min_7cf53_2 : decode cJ9_min_7cf53 2 = .ok (.if_icmp .gt 7, 3) := by decide +kernel
theorem dJ9_min_7cf53_5 : decode cJ9_min_7cf53 5 = .ok (.iload_n 0, 1) := by decide +kernel
theorem dJ9_min_7cf53_6 : decode cJ9_min_7cf53 6 = .ok (.goto 4, 3) := by decide +kernel
theorem dJ9_min_7cf53_9 : decode cJ9_min_7cf53 9 = .ok (.iload_n 1, 1) := by decide +kernel
theorem dJ9_min_7cf53_10 : decode cJ9_min_7cf53 10 = .ok (.ireturn, 1) := by decide +kernel
theorem dL_draw_0 : decode cL_draw 0 = .ok (.iload_n 1, 1) := by decide +kernel
theorem dL_draw_1 : decode cL_draw 1 = .ok (.aload_n 0, 1) := by decide +kernel
theorem dL_draw_2 : decode cL_draw 2 = .ok (.arraylength, 1) := by decide +kernel
theorem dL_draw_3 : decode cL_draw 3 = .ok (.if_icmp .ge 9, 3) := by decide +kernel
theorem dL_draw_6 : decode cL_draw 6 = .ok (.aload_n 0, 1) := by decide +kernel
theorem dL_draw_7 : decode cL_draw 7 = .ok (.iload_n 1, 1) := by decide +kernel
theorem dL_draw_8 : decode cL_draw 8 = .ok (.iaload, 1) := by decide +kernel
theorem dL_draw_9 : decode cL_draw 9 = .ok (.goto 14, 3) := by decide +kernel
theorem dL_draw_12 : decode cL_draw 12 = .ok (.ldc 7, 2) := by decide +kernel
theorem dL_draw_14 : decode cL_draw 14 = .ok (.iload_n 1, 1) := by decide +kernel
theorem dL_draw_15 : decode cL_draw 15 = .ok (.sipush 1109, 3) := by decide +kernel
theorem dL_draw_18 : decode cL_draw 18 = .ok (.iadd, 1) := by decide +kernel
theorem dL_draw_19 : decode cL_draw 19 = .ok (.imul, 1) := by decide +kernel
theorem dL_draw_20 : decode cL_draw 20 = .ok (.ldc 8, 2) := by decide +kernel
theorem dL_draw_22 : decode cL_draw 22 = .ok (.iadd, 1) := by decide +kernel
theorem dL_draw_23 : decode cL_draw 23 = .ok (.istore_n 3, 1) := by decide +kernel
theorem dL_draw_24 : decode cL_draw 24 = .ok (.iload_n 3, 1) := by decide +kernel
theorem dL_draw_25 : decode cL_draw 25 = .ok (.ldc 9, 2) := by decide +kernel
theorem dL_draw_27 : decode cL_draw 27 = .ok (.iand, 1) := by decide +kernel
theorem dL_draw_28 : decode cL_draw 28 = .ok (.iload_n 2, 1) := by decide +kernel
theorem dL_draw_29 : decode cL_draw 29 = .ok (.irem, 1) := by decide +kernel
theorem dL_draw_30 : decode cL_draw 30 = .ok (.ireturn, 1) := by decide +kernel
theorem dL_asks_0 : decode cL_asks 0 = .ok (.iload_n 1, 1) := by decide +kernel
theorem dL_asks_1 : decode cL_asks 1 = .ok (.ifCond .ne 12, 3) := by decide +kernel
theorem dL_asks_4 : decode cL_asks 4 = .ok (.aload_n 0, 1) := by decide +kernel
theorem dL_asks_5 : decode cL_asks 5 = .ok (.iload_n 2, 1) := by decide +kernel
theorem dL_asks_6 : decode cL_asks 6 = .ok (.iload_n 3, 1) := by decide +kernel
theorem dL_asks_7 : decode cL_asks 7 = .ok (.invokevirtual 10, 3) := by decide +kernel
theorem dL_asks_10 : decode cL_asks 10 = .ok (.goto 101, 3) := by decide +kernel
theorem dL_asks_13 : decode cL_asks 13 = .ok (.iload_n 1, 1) := by decide +kernel
theorem dL_asks_14 : decode cL_asks 14 = .ok (.iconst 1, 1) := by decide +kernel
theorem dL_asks_15 : decode cL_asks 15 = .ok (.if_icmp .ne 12, 3) := by decide +kernel
theorem dL_asks_18 : decode cL_asks 18 = .ok (.aload_n 0, 1) := by decide +kernel
theorem dL_asks_19 : decode cL_asks 19 = .ok (.iload_n 2, 1) := by decide +kernel
theorem dL_asks_20 : decode cL_asks 20 = .ok (.iload_n 3, 1) := by decide +kernel
theorem dL_asks_21 : decode cL_asks 21 = .ok (.invokevirtual 16, 3) := by decide +kernel
theorem dL_asks_24 : decode cL_asks 24 = .ok (.goto 87, 3) := by decide +kernel
theorem dL_asks_27 : decode cL_asks 27 = .ok (.iload_n 1, 1) := by decide +kernel
theorem dL_asks_28 : decode cL_asks 28 = .ok (.iconst 2, 1) := by decide +kernel
theorem dL_asks_29 : decode cL_asks 29 = .ok (.if_icmp .ne 20, 3) := by decide +kernel
theorem dL_asks_32 : decode cL_asks 32 = .ok (.aload_n 0, 1) := by decide +kernel
theorem dL_asks_33 : decode cL_asks 33 = .ok (.iload_n 2, 1) := by decide +kernel
theorem dL_asks_34 : decode cL_asks 34 = .ok (.iload_n 3, 1) := by decide +kernel
theorem dL_asks_35 : decode cL_asks 35 = .ok (.invokevirtual 19, 3) := by decide +kernel
theorem dL_asks_38 : decode cL_asks 38 = .ok (.ifCond .eq 7, 3) := by decide +kernel
theorem dL_asks_41 : decode cL_asks 41 = .ok (.iconst 1, 1) := by decide +kernel
theorem dL_asks_42 : decode cL_asks 42 = .ok (.goto 69, 3) := by decide +kernel
theorem dL_asks_45 : decode cL_asks 45 = .ok (.iconst 0, 1) := by decide +kernel
theorem dL_asks_46 : decode cL_asks 46 = .ok (.goto 65, 3) := by decide +kernel
theorem dL_asks_49 : decode cL_asks 49 = .ok (.iload_n 1, 1) := by decide +kernel
theorem dL_asks_50 : decode cL_asks 50 = .ok (.iconst 3, 1) := by decide +kernel
theorem dL_asks_51 : decode cL_asks 51 = .ok (.if_icmp .ne 11, 3) := by decide +kernel
theorem dL_asks_54 : decode cL_asks 54 = .ok (.aload_n 0, 1) := by decide +kernel
theorem dL_asks_55 : decode cL_asks 55 = .ok (.iload_n 2, 1) := by decide +kernel
theorem dL_asks_56 : decode cL_asks 56 = .ok (.invokevirtual 23, 3) := by decide +kernel
theorem dL_asks_59 : decode cL_asks 59 = .ok (.goto 52, 3) := by decide +kernel
theorem dL_asks_62 : decode cL_asks 62 = .ok (.iload_n 1, 1) := by decide +kernel
theorem dL_asks_63 : decode cL_asks 63 = .ok (.iconst 4, 1) := by decide +kernel
theorem dL_asks_64 : decode cL_asks 64 = .ok (.if_icmp .ne 12, 3) := by decide +kernel
theorem dL_asks_67 : decode cL_asks 67 = .ok (.aload_n 0, 1) := by decide +kernel
theorem dL_asks_68 : decode cL_asks 68 = .ok (.iload_n 2, 1) := by decide +kernel
theorem dL_asks_69 : decode cL_asks 69 = .ok (.iload_n 3, 1) := by decide +kernel
theorem dL_asks_70 : decode cL_asks 70 = .ok (.invokevirtual 27, 3) := by decide +kernel
theorem dL_asks_73 : decode cL_asks 73 = .ok (.goto 38, 3) := by decide +kernel
theorem dL_asks_76 : decode cL_asks 76 = .ok (.iload_n 1, 1) := by decide +kernel
theorem dL_asks_77 : decode cL_asks 77 = .ok (.iconst 5, 1) := by decide +kernel
theorem dL_asks_78 : decode cL_asks 78 = .ok (.if_icmp .ne 12, 3) := by decide +kernel
theorem dL_asks_81 : decode cL_asks 81 = .ok (.aload_n 0, 1) := by decide +kernel
theorem dL_asks_82 : decode cL_asks 82 = .ok (.iload_n 2, 1) := by decide +kernel
theorem dL_asks_83 : decode cL_asks 83 = .ok (.iload_n 3, 1) := by decide +kernel
theorem dL_asks_84 : decode cL_asks 84 = .ok (.invokevirtual 30, 3) := by decide +kernel
theorem dL_asks_87 : decode cL_asks 87 = .ok (.goto 24, 3) := by decide +kernel
theorem dL_asks_90 : decode cL_asks 90 = .ok (.iload_n 1, 1) := by decide +kernel
theorem dL_asks_91 : decode cL_asks 91 = .ok (.bipush 6, 2) := by decide +kernel
theorem dL_asks_93 : decode cL_asks 93 = .ok (.if_icmp .ne 12, 3) := by decide +kernel
theorem dL_asks_96 : decode cL_asks 96 = .ok (.aload_n 0, 1) := by decide +kernel
theorem dL_asks_97 : decode cL_asks 97 = .ok (.iload_n 2, 1) := by decide +kernel
theorem dL_asks_98 : decode cL_asks 98 = .ok (.iload_n 3, 1) := by decide +kernel
theorem dL_asks_99 : decode cL_asks 99 = .ok (.invokevirtual 33, 3) := by decide +kernel
theorem dL_asks_102 : decode cL_asks 102 = .ok (.goto 9, 3) := by decide +kernel
theorem dL_asks_105 : decode cL_asks 105 = .ok (.aload_n 0, 1) := by decide +kernel
theorem dL_asks_106 : decode cL_asks 106 = .ok (.iload_n 2, 1) := by decide +kernel
theorem dL_asks_107 : decode cL_asks 107 = .ok (.iload_n 3, 1) := by decide +kernel
theorem dL_asks_108 : decode cL_asks 108 = .ok (.invokevirtual 36, 3) := by decide +kernel
theorem dL_asks_111 : decode cL_asks 111 = .ok (.ireturn, 1) := by decide +kernel
theorem dL_asks_112 : decode cL_asks 112 = .ok (.astore 4, 2) := by decide +kernel
theorem dL_asks_114 : decode cL_asks 114 = .ok (.ldc 41, 2) := by decide +kernel
theorem dL_asks_116 : decode cL_asks 116 = .ok (.ireturn, 1) := by decide +kernel
theorem dL_asks_117 : decode cL_asks 117 = .ok (.astore 4, 2) := by decide +kernel
theorem dL_asks_119 : decode cL_asks 119 = .ok (.ldc 44, 2) := by decide +kernel
theorem dL_asks_121 : decode cL_asks 121 = .ok (.ireturn, 1) := by decide +kernel
theorem dL_asks_122 : decode cL_asks 122 = .ok (.astore 4, 2) := by decide +kernel
theorem dL_asks_124 : decode cL_asks 124 = .ok (.ldc 47, 2) := by decide +kernel
theorem dL_asks_126 : decode cL_asks 126 = .ok (.ireturn, 1) := by decide +kernel
theorem dL_isContract_0 : decode cL_isContract 0 = .ok (.aload_n 0, 1) := by decide +kernel
theorem dL_isContract_1 : decode cL_isContract 1 = .ok (.iload_n 1, 1) := by decide +kernel
theorem dL_isContract_2 : decode cL_isContract 2 = .ok (.iload_n 2, 1) := by decide +kernel
theorem dL_isContract_3 : decode cL_isContract 3 = .ok (.iload_n 3, 1) := by decide +kernel
theorem dL_isContract_4 : decode cL_isContract 4 = .ok (.invokevirtual 48, 3) := by decide +kernel
theorem dL_isContract_7 : decode cL_isContract 7 = .ok (.iconst 1, 1) := by decide +kernel
theorem dL_isContract_8 : decode cL_isContract 8 = .ok (.ireturn, 1) := by decide +kernel
theorem dL_isContract_9 : decode cL_isContract 9 = .ok (.astore 4, 2) := by decide +kernel
theorem dL_isContract_11 : decode cL_isContract 11 = .ok (.iconst 0, 1) := by decide +kernel
theorem dL_isContract_12 : decode cL_isContract 12 = .ok (.ireturn, 1) := by decide +kernel
theorem dL_may_0 : decode cL_may 0 = .ok (.aload_n 0, 1) := by decide +kernel
theorem dL_may_1 : decode cL_may 1 = .ok (.aload_n 2, 1) := by decide +kernel
theorem dL_may_2 : decode cL_may 2 = .ok (.iconst 5, 1) := by decide +kernel
theorem dL_may_3 : decode cL_may 3 = .ok (.iaload, 1) := by decide +kernel
theorem dL_may_4 : decode cL_may 4 = .ok (.iconst 0, 1) := by decide +kernel
theorem dL_may_5 : decode cL_may 5 = .ok (.invokevirtual 52, 3) := by decide +kernel
theorem dL_may_8 : decode cL_may 8 = .ok (.istore 4, 2) := by decide +kernel
theorem dL_may_10 : decode cL_may 10 = .ok (.iload 4, 2) := by decide +kernel
theorem dL_may_12 : decode cL_may 12 = .ok (.aload_n 2, 1) := by decide +kernel
theorem dL_may_13 : decode cL_may 13 = .ok (.bipush 7, 2) := by decide +kernel
theorem dL_may_15 : decode cL_may 15 = .ok (.iaload, 1) := by decide +kernel
theorem dL_may_16 : decode cL_may 16 = .ok (.if_icmp .ge 7, 3) := by decide +kernel
theorem dL_may_19 : decode cL_may 19 = .ok (.iconst 0, 1) := by decide +kernel
theorem dL_may_20 : decode cL_may 20 = .ok (.goto 29, 3) := by decide +kernel
theorem dL_may_23 : decode cL_may 23 = .ok (.iload 4, 2) := by decide +kernel
theorem dL_may_25 : decode cL_may 25 = .ok (.aload_n 2, 1) := by decide +kernel
theorem dL_may_26 : decode cL_may 26 = .ok (.bipush 6, 2) := by decide +kernel
theorem dL_may_28 : decode cL_may 28 = .ok (.iaload, 1) := by decide +kernel
theorem dL_may_29 : decode cL_may 29 = .ok (.if_icmp .ge 14, 3) := by decide +kernel
theorem dL_may_32 : decode cL_may 32 = .ok (.aload_n 3, 1) := by decide +kernel
theorem dL_may_33 : decode cL_may 33 = .ok (.bipush 6, 2) := by decide +kernel
theorem dL_may_35 : decode cL_may 35 = .ok (.iload_n 1, 1) := by decide +kernel
theorem dL_may_36 : decode cL_may 36 = .ok (.iadd, 1) := by decide +kernel
theorem dL_may_37 : decode cL_may 37 = .ok (.iaload, 1) := by decide +kernel
theorem dL_may_38 : decode cL_may 38 = .ok (.iconst 2, 1) := by decide +kernel
theorem dL_may_39 : decode cL_may 39 = .ok (.idiv, 1) := by decide +kernel
theorem dL_may_40 : decode cL_may 40 = .ok (.goto 9, 3) := by decide +kernel
theorem dL_may_43 : decode cL_may 43 = .ok (.aload_n 3, 1) := by decide +kernel
theorem dL_may_44 : decode cL_may 44 = .ok (.bipush 6, 2) := by decide +kernel
theorem dL_may_46 : decode cL_may 46 = .ok (.iload_n 1, 1) := by decide +kernel
theorem dL_may_47 : decode cL_may 47 = .ok (.iadd, 1) := by decide +kernel
theorem dL_may_48 : decode cL_may 48 = .ok (.iaload, 1) := by decide +kernel
theorem dL_may_49 : decode cL_may 49 = .ok (.istore 5, 2) := by decide +kernel
theorem dL_may_51 : decode cL_may 51 = .ok (.iload 5, 2) := by decide +kernel
theorem dL_may_53 : decode cL_may 53 = .ok (.aload_n 3, 1) := by decide +kernel
theorem dL_may_54 : decode cL_may 54 = .ok (.bipush 12, 2) := by decide +kernel
theorem dL_may_56 : decode cL_may 56 = .ok (.iload_n 1, 1) := by decide +kernel
theorem dL_may_57 : decode cL_may 57 = .ok (.iadd, 1) := by decide +kernel
theorem dL_may_58 : decode cL_may 58 = .ok (.iaload, 1) := by decide +kernel
theorem dL_may_59 : decode cL_may 59 = .ok (.if_icmp .le 15, 3) := by decide +kernel
theorem dL_may_62 : decode cL_may 62 = .ok (.iload 5, 2) := by decide +kernel
theorem dL_may_64 : decode cL_may 64 = .ok (.aload_n 3, 1) := by decide +kernel
theorem dL_may_65 : decode cL_may 65 = .ok (.bipush 12, 2) := by decide +kernel
theorem dL_may_67 : decode cL_may 67 = .ok (.iload_n 1, 1) := by decide +kernel
theorem dL_may_68 : decode cL_may 68 = .ok (.iadd, 1) := by decide +kernel
theorem dL_may_69 : decode cL_may 69 = .ok (.iaload, 1) := by decide +kernel
theorem dL_may_70 : decode cL_may 70 = .ok (.isub, 1) := by decide +kernel
theorem dL_may_71 : decode cL_may 71 = .ok (.goto 4, 3) := by decide +kernel
theorem dL_may_74 : decode cL_may 74 = .ok (.iconst 0, 1) := by decide +kernel
theorem dL_may_75 : decode cL_may 75 = .ok (.ireturn, 1) := by decide +kernel
theorem dL_isWater_0 : decode cL_isWater 0 = .ok (.aload_n 0, 1) := by decide +kernel
theorem dL_isWater_1 : decode cL_isWater 1 = .ok (.iload_n 1, 1) := by decide +kernel
theorem dL_isWater_2 : decode cL_isWater 2 = .ok (.bipush 7, 2) := by decide +kernel
theorem dL_isWater_4 : decode cL_isWater 4 = .ok (.invokevirtual 36, 3) := by decide +kernel
theorem dL_isWater_7 : decode cL_isWater 7 = .ok (.istore 4, 2) := by decide +kernel
theorem dL_isWater_9 : decode cL_isWater 9 = .ok (.iload 4, 2) := by decide +kernel
theorem dL_isWater_11 : decode cL_isWater 11 = .ok (.aload_n 3, 1) := by decide +kernel
theorem dL_isWater_12 : decode cL_isWater 12 = .ok (.iconst 3, 1) := by decide +kernel
theorem dL_isWater_13 : decode cL_isWater 13 = .ok (.iaload, 1) := by decide +kernel
theorem dL_isWater_14 : decode cL_isWater 14 = .ok (.iand, 1) := by decide +kernel
theorem dL_isWater_15 : decode cL_isWater 15 = .ok (.ifCond .ne 20, 3) := by decide +kernel
theorem dL_isWater_18 : decode cL_isWater 18 = .ok (.iload 4, 2) := by decide +kernel
theorem dL_isWater_20 : decode cL_isWater 20 = .ok (.iload_n 2, 1) := by decide +kernel
theorem dL_isWater_21 : decode cL_isWater 21 = .ok (.ifCond .ne 8, 3) := by decide +kernel
theorem dL_isWater_24 : decode cL_isWater 24 = .ok (.bipush 62, 2) := by decide +kernel
theorem dL_isWater_26 : decode cL_isWater 26 = .ok (.goto 5, 3) := by decide +kernel
theorem dL_isWater_29 : decode cL_isWater 29 = .ok (.bipush 60, 2) := by decide +kernel
theorem dL_isWater_31 : decode cL_isWater 31 = .ok (.iand, 1) := by decide +kernel
theorem dL_isWater_32 : decode cL_isWater 32 = .ok (.ifCond .eq 7, 3) := by decide +kernel
theorem dL_isWater_35 : decode cL_isWater 35 = .ok (.iconst 1, 1) := by decide +kernel
theorem dL_isWater_36 : decode cL_isWater 36 = .ok (.goto 4, 3) := by decide +kernel
theorem dL_isWater_39 : decode cL_isWater 39 = .ok (.iconst 0, 1) := by decide +kernel
theorem dL_isWater_40 : decode cL_isWater 40 = .ok (.istore 5, 2) := by decide +kernel
theorem dL_isWater_42 : decode cL_isWater 42 = .ok (.aload_n 0, 1) := by decide +kernel
theorem dL_isWater_43 : decode cL_isWater 43 = .ok (.iload_n 1, 1) := by decide +kernel
theorem dL_isWater_44 : decode cL_isWater 44 = .ok (.iconst 1, 1) := by decide +kernel
theorem dL_isWater_45 : decode cL_isWater 45 = .ok (.invokevirtual 36, 3) := by decide +kernel
theorem dL_isWater_48 : decode cL_isWater 48 = .ok (.i2l, 1) := by decide +kernel
theorem dL_isWater_49 : decode cL_isWater 49 = .ok (.lstore 6, 2) := by decide +kernel
theorem dL_isWater_51 : decode cL_isWater 51 = .ok (.iload_n 2, 1) := by decide +kernel
theorem dL_isWater_52 : decode cL_isWater 52 = .ok (.iconst 2, 1) := by decide +kernel
theorem dL_isWater_53 : decode cL_isWater 53 = .ok (.if_icmp .eq 60, 3) := by decide +kernel
theorem dL_isWater_56 : decode cL_isWater 56 = .ok (.iload 5, 2) := by decide +kernel
theorem dL_isWater_58 : decode cL_isWater 58 = .ok (.ifCond .ne 59, 3) := by decide +kernel
theorem dL_isWater_61 : decode cL_isWater 61 = .ok (.aload_n 0, 1) := by decide +kernel
theorem dL_isWater_62 : decode cL_isWater 62 = .ok (.iload_n 1, 1) := by decide +kernel
theorem dL_isWater_63 : decode cL_isWater 63 = .ok (.iconst 2, 1) := by decide +kernel
theorem dL_isWater_64 : decode cL_isWater 64 = .ok (.invokevirtual 36, 3) := by decide +kernel
theorem dL_isWater_67 : decode cL_isWater 67 = .ok (.i2l, 1) := by decide +kernel
theorem dL_isWater_68 : decode cL_isWater 68 = .ok (.iload_n 2, 1) := by decide +kernel
theorem dL_isWater_69 : decode cL_isWater 69 = .ok (.ifCond .ne 9, 3) := by decide +kernel
theorem dL_isWater_72 : decode cL_isWater 72 = .ok (.ldc2_w 55, 3) := by decide +kernel
theorem dL_isWater_75 : decode cL_isWater 75 = .ok (.goto 6, 3) := by decide +kernel
theorem dL_isWater_78 : decode cL_isWater 78 = .ok (.ldc2_w 57, 3) := by decide +kernel
theorem dL_isWater_81 : decode cL_isWater 81 = .ok (.lload 6, 2) := by decide +kernel
theorem dL_isWater_83 : decode cL_isWater 83 = .ok (.lmul, 1) := by decide +kernel
theorem dL_isWater_84 : decode cL_isWater 84 = .ok (.lcmp, 1) := by decide +kernel
theorem dL_isWater_85 : decode cL_isWater 85 = .ok (.ifCond .gt 32, 3) := by decide +kernel
theorem dL_isWater_88 : decode cL_isWater 88 = .ok (.iload_n 2, 1) := by decide +kernel
theorem dL_isWater_89 : decode cL_isWater 89 = .ok (.iconst 1, 1) := by decide +kernel
theorem dL_isWater_90 : decode cL_isWater 90 = .ok (.if_icmp .eq 23, 3) := by decide +kernel
theorem dL_isWater_93 : decode cL_isWater 93 = .ok (.aload_n 0, 1) := by decide +kernel
theorem dL_isWater_94 : decode cL_isWater 94 = .ok (.iload_n 1, 1) := by decide +kernel
theorem dL_isWater_95 : decode cL_isWater 95 = .ok (.iconst 4, 1) := by decide +kernel
theorem dL_isWater_96 : decode cL_isWater 96 = .ok (.invokevirtual 36, 3) := by decide +kernel
theorem dL_isWater_99 : decode cL_isWater 99 = .ok (.ifCond .ne 18, 3) := by decide +kernel
theorem dL_isWater_102 : decode cL_isWater 102 = .ok (.aload_n 0, 1) := by decide +kernel
theorem dL_isWater_103 : decode cL_isWater 103 = .ok (.iload_n 1, 1) := by decide +kernel
theorem dL_isWater_104 : decode cL_isWater 104 = .ok (.iconst 5, 1) := by decide +kernel
theorem dL_isWater_105 : decode cL_isWater 105 = .ok (.invokevirtual 36, 3) := by decide +kernel
theorem dL_isWater_108 : decode cL_isWater 108 = .ok (.bipush 9, 2) := by decide +kernel
theorem dL_isWater_110 : decode cL_isWater 110 = .ok (.if_icmp .le 7, 3) := by decide +kernel
theorem dL_isWater_113 : decode cL_isWater 113 = .ok (.iconst 1, 1) := by decide +kernel
theorem dL_isWater_114 : decode cL_isWater 114 = .ok (.goto 4, 3) := by decide +kernel
theorem dL_isWater_117 : decode cL_isWater 117 = .ok (.iconst 0, 1) := by decide +kernel
theorem dL_isWater_118 : decode cL_isWater 118 = .ok (.ireturn, 1) := by decide +kernel
theorem dL_isLot_0 : decode cL_isLot 0 = .ok (.aload_n 0, 1) := by decide +kernel
theorem dL_isLot_1 : decode cL_isLot 1 = .ok (.iload_n 1, 1) := by decide +kernel
theorem dL_isLot_2 : decode cL_isLot 2 = .ok (.iconst 1, 1) := by decide +kernel
theorem dL_isLot_3 : decode cL_isLot 3 = .ok (.invokevirtual 36, 3) := by decide +kernel
theorem dL_isLot_6 : decode cL_isLot 6 = .ok (.istore 4, 2) := by decide +kernel
theorem dL_isLot_8 : decode cL_isLot 8 = .ok (.aload_n 3, 1) := by decide +kernel
theorem dL_isLot_9 : decode cL_isLot 9 = .ok (.iload_n 1, 1) := by decide +kernel
theorem dL_isLot_10 : decode cL_isLot 10 = .ok (.iaload, 1) := by decide +kernel
theorem dL_isLot_11 : decode cL_isLot 11 = .ok (.bipush 10, 2) := by decide +kernel
theorem dL_isLot_13 : decode cL_isLot 13 = .ok (.irem, 1) := by decide +kernel
theorem dL_isLot_14 : decode cL_isLot 14 = .ok (.iconst 1, 1) := by decide +kernel
theorem dL_isLot_15 : decode cL_isLot 15 = .ok (.isub, 1) := by decide +kernel
theorem dL_isLot_16 : decode cL_isLot 16 = .ok (.istore 5, 2) := by decide +kernel
theorem dL_isLot_18 : decode cL_isLot 18 = .ok (.aload_n 0, 1) := by decide +kernel
theorem dL_isLot_19 : decode cL_isLot 19 = .ok (.iload_n 1, 1) := by decide +kernel
theorem dL_isLot_20 : decode cL_isLot 20 = .ok (.iconst 5, 1) := by decide +kernel
theorem dL_isLot_21 : decode cL_isLot 21 = .ok (.invokevirtual 36, 3) := by decide +kernel
theorem dL_isLot_24 : decode cL_isLot 24 = .ok (.istore 6, 2) := by decide +kernel
theorem dL_isLot_26 : decode cL_isLot 26 = .ok (.aload_n 0, 1) := by decide +kernel
theorem dL_isLot_27 : decode cL_isLot 27 = .ok (.iload_n 1, 1) := by decide +kernel
theorem dL_isLot_28 : decode cL_isLot 28 = .ok (.bipush 6, 2) := by decide +kernel
theorem dL_isLot_30 : decode cL_isLot 30 = .ok (.invokevirtual 36, 3) := by decide +kernel
theorem dL_isLot_33 : decode cL_isLot 33 = .ok (.istore 7, 2) := by decide +kernel
theorem dL_isLot_35 : decode cL_isLot 35 = .ok (.iload 4, 2) := by decide +kernel
theorem dL_isLot_37 : decode cL_isLot 37 = .ok (.ifCond .le 135, 3) := by decide +kernel
theorem dL_isLot_40 : decode cL_isLot 40 = .ok (.aload_n 0, 1) := by decide +kernel
theorem dL_isLot_41 : decode cL_isLot 41 = .ok (.iload_n 1, 1) := by decide +kernel
theorem dL_isLot_42 : decode cL_isLot 42 = .ok (.iconst 2, 1) := by decide +kernel
theorem dL_isLot_43 : decode cL_isLot 43 = .ok (.invokevirtual 36, 3) := by decide +kernel
theorem dL_isLot_46 : decode cL_isLot 46 = .ok (.iload 4, 2) := by decide +kernel
theorem dL_isLot_48 : decode cL_isLot 48 = .ok (.if_icmp .lt 124, 3) := by decide +kernel
theorem dL_isLot_51 : decode cL_isLot 51 = .ok (.aload_n 0, 1) := by decide +kernel
theorem dL_isLot_52 : decode cL_isLot 52 = .ok (.iload_n 1, 1) := by decide +kernel
theorem dL_isLot_53 : decode cL_isLot 53 = .ok (.iconst 2, 1) := by decide +kernel
theorem dL_isLot_54 : decode cL_isLot 54 = .ok (.invokevirtual 36, 3) := by decide +kernel
theorem dL_isLot_57 : decode cL_isLot 57 = .ok (.bipush 10, 2) := by decide +kernel
theorem dL_isLot_59 : decode cL_isLot 59 = .ok (.iload 4, 2) := by decide +kernel
theorem dL_isLot_61 : decode cL_isLot 61 = .ok (.imul, 1) := by decide +kernel
theorem dL_isLot_62 : decode cL_isLot 62 = .ok (.if_icmp .gt 110, 3) := by decide +kernel
theorem dL_isLot_65 : decode cL_isLot 65 = .ok (.iload 6, 2) := by decide +kernel
theorem dL_isLot_67 : decode cL_isLot 67 = .ok (.ifCond .le 105, 3) := by decide +kernel
theorem dL_isLot_70 : decode cL_isLot 70 = .ok (.iload 7, 2) := by decide +kernel
theorem dL_isLot_72 : decode cL_isLot 72 = .ok (.iload 6, 2) := by decide +kernel
theorem dL_isLot_74 : decode cL_isLot 74 = .ok (.if_icmp .lt 98, 3) := by decide +kernel
theorem dL_isLot_77 : decode cL_isLot 77 = .ok (.iload 7, 2) := by decide +kernel
theorem dL_isLot_79 : decode cL_isLot 79 = .ok (.aload_n 0, 1) := by decide +kernel
theorem dL_isLot_80 : decode cL_isLot 80 = .ok (.iload_n 1, 1) := by decide +kernel
theorem dL_isLot_81 : decode cL_isLot 81 = .ok (.iconst 3, 1) := by decide +kernel
theorem dL_isLot_82 : decode cL_isLot 82 = .ok (.invokevirtual 36, 3) := by decide +kernel
theorem dL_isLot_85 : decode cL_isLot 85 = .ok (.if_icmp .gt 87, 3) := by decide +kernel
theorem dL_isLot_88 : decode cL_isLot 88 = .ok (.aload_n 0, 1) := by decide +kernel
theorem dL_isLot_89 : decode cL_isLot 89 = .ok (.iload_n 1, 1) := by decide +kernel
theorem dL_isLot_90 : decode cL_isLot 90 = .ok (.invokevirtual 59, 3) := by decide +kernel
theorem dL_isLot_93 : decode cL_isLot 93 = .ok (.iload 6, 2) := by decide +kernel
theorem dL_isLot_95 : decode cL_isLot 95 = .ok (.i2f, 1) := by decide +kernel
theorem dL_isLot_96 : decode cL_isLot 96 = .ok (.fcmp .l, 1) := by decide +kernel
theorem dL_isLot_97 : decode cL_isLot 97 = .ok (.ifCond .lt 75, 3) := by decide +kernel
theorem dL_isLot_100 : decode cL_isLot 100 = .ok (.aload_n 0, 1) := by decide +kernel
theorem dL_isLot_101 : decode cL_isLot 101 = .ok (.iload_n 1, 1) := by decide +kernel
theorem dL_isLot_102 : decode cL_isLot 102 = .ok (.invokevirtual 59, 3) := by decide +kernel
theorem dL_isLot_105 : decode cL_isLot 105 = .ok (.iload 7, 2) := by decide +kernel
theorem dL_isLot_107 : decode cL_isLot 107 = .ok (.i2f, 1) := by decide +kernel
theorem dL_isLot_108 : decode cL_isLot 108 = .ok (.fcmp .g, 1) := by decide +kernel
theorem dL_isLot_109 : decode cL_isLot 109 = .ok (.ifCond .gt 63, 3) := by decide +kernel
theorem dL_isLot_112 : decode cL_isLot 112 = .ok (.aload_n 0, 1) := by decide +kernel
theorem dL_isLot_113 : decode cL_isLot 113 = .ok (.iload_n 1, 1) := by decide +kernel
theorem dL_isLot_114 : decode cL_isLot 114 = .ok (.bipush 8, 2) := by decide +kernel
theorem dL_isLot_116 : decode cL_isLot 116 = .ok (.invokevirtual 36, 3) := by decide +kernel
theorem dL_isLot_119 : decode cL_isLot 119 = .ok (.iload 5, 2) := by decide +kernel
theorem dL_isLot_121 : decode cL_isLot 121 = .ok (.if_icmp .ne 51, 3) := by decide +kernel
theorem dL_isLot_124 : decode cL_isLot 124 = .ok (.aload_n 0, 1) := by decide +kernel
theorem dL_isLot_125 : decode cL_isLot 125 = .ok (.iload_n 1, 1) := by decide +kernel
theorem dL_isLot_126 : decode cL_isLot 126 = .ok (.bipush 9, 2) := by decide +kernel
theorem dL_isLot_128 : decode cL_isLot 128 = .ok (.invokevirtual 36, 3) := by decide +kernel
theorem dL_isLot_131 : decode cL_isLot 131 = .ok (.iload 5, 2) := by decide +kernel
theorem dL_isLot_133 : decode cL_isLot 133 = .ok (.ifCond .ge 7, 3) := by decide +kernel
theorem dL_isLot_136 : decode cL_isLot 136 = .ok (.iconst (-1), 1) := by decide +kernel
theorem dL_isLot_137 : decode cL_isLot 137 = .ok (.goto 12, 3) := by decide +kernel
theorem dL_isLot_140 : decode cL_isLot 140 = .ok (.aload_n 3, 1) := by decide +kernel
theorem dL_isLot_141 : decode cL_isLot 141 = .ok (.iload_n 1, 1) := by decide +kernel
theorem dL_isLot_142 : decode cL_isLot 142 = .ok (.iaload, 1) := by decide +kernel
theorem dL_isLot_143 : decode cL_isLot 143 = .ok (.bipush 10, 2) := by decide +kernel
theorem dL_isLot_145 : decode cL_isLot 145 = .ok (.idiv, 1) := by decide +kernel
theorem dL_isLot_146 : decode cL_isLot 146 = .ok (.bipush 10, 2) := by decide +kernel
theorem dL_isLot_148 : decode cL_isLot 148 = .ok (.irem, 1) := by decide +kernel
theorem dL_isLot_149 : decode cL_isLot 149 = .ok (.if_icmp .ne 23, 3) := by decide +kernel
theorem dL_isLot_152 : decode cL_isLot 152 = .ok (.aload_n 0, 1) := by decide +kernel
theorem dL_isLot_153 : decode cL_isLot 153 = .ok (.iload_n 1, 1) := by decide +kernel
theorem dL_isLot_154 : decode cL_isLot 154 = .ok (.bipush 10, 2) := by decide +kernel
theorem dL_isLot_156 : decode cL_isLot 156 = .ok (.invokevirtual 36, 3) := by decide +kernel
theorem dL_isLot_159 : decode cL_isLot 159 = .ok (.aload_n 3, 1) := by decide +kernel
theorem dL_isLot_160 : decode cL_isLot 160 = .ok (.iload_n 1, 1) := by decide +kernel
theorem dL_isLot_161 : decode cL_isLot 161 = .ok (.iaload, 1) := by decide +kernel
theorem dL_isLot_162 : decode cL_isLot 162 = .ok (.bipush 100, 2) := by decide +kernel
theorem dL_isLot_164 : decode cL_isLot 164 = .ok (.idiv, 1) := by decide +kernel
theorem dL_isLot_165 : decode cL_isLot 165 = .ok (.if_icmp .ne 7, 3) := by decide +kernel
theorem dL_isLot_168 : decode cL_isLot 168 = .ok (.iconst 1, 1) := by decide +kernel
theorem dL_isLot_169 : decode cL_isLot 169 = .ok (.goto 4, 3) := by decide +kernel
theorem dL_isLot_172 : decode cL_isLot 172 = .ok (.iconst 0, 1) := by decide +kernel
theorem dL_isLot_173 : decode cL_isLot 173 = .ok (.istore 8, 2) := by decide +kernel
theorem dL_isLot_175 : decode cL_isLot 175 = .ok (.aload_n 0, 1) := by decide +kernel
theorem dL_isLot_176 : decode cL_isLot 176 = .ok (.iload_n 1, 1) := by decide +kernel
theorem dL_isLot_177 : decode cL_isLot 177 = .ok (.iconst 0, 1) := by decide +kernel
theorem dL_isLot_178 : decode cL_isLot 178 = .ok (.aload_n 2, 1) := by decide +kernel
theorem dL_isLot_179 : decode cL_isLot 179 = .ok (.invokestatic 63, 3) := by decide +kernel
theorem dL_isLot_182 : decode cL_isLot 182 = .ok (.ifCond .eq 7, 3) := by decide +kernel
theorem dL_isLot_185 : decode cL_isLot 185 = .ok (.iconst 0, 1) := by decide +kernel
theorem dL_isLot_186 : decode cL_isLot 186 = .ok (.goto 18, 3) := by decide +kernel
theorem dL_isLot_189 : decode cL_isLot 189 = .ok (.aload_n 0, 1) := by decide +kernel
theorem dL_isLot_190 : decode cL_isLot 190 = .ok (.iload_n 1, 1) := by decide +kernel
theorem dL_isLot_191 : decode cL_isLot 191 = .ok (.iconst 1, 1) := by decide +kernel
theorem dL_isLot_192 : decode cL_isLot 192 = .ok (.aload_n 2, 1) := by decide +kernel
theorem dL_isLot_193 : decode cL_isLot 193 = .ok (.invokestatic 63, 3) := by decide +kernel
theorem dL_isLot_196 : decode cL_isLot 196 = .ok (.ifCond .eq 7, 3) := by decide +kernel
theorem dL_isLot_199 : decode cL_isLot 199 = .ok (.iconst 1, 1) := by decide +kernel
theorem dL_isLot_200 : decode cL_isLot 200 = .ok (.goto 4, 3) := by decide +kernel
theorem dL_isLot_203 : decode cL_isLot 203 = .ok (.iconst 2, 1) := by decide +kernel
theorem dL_isLot_204 : decode cL_isLot 204 = .ok (.istore 9, 2) := by decide +kernel
theorem dL_isLot_206 : decode cL_isLot 206 = .ok (.iload 8, 2) := by decide +kernel
theorem dL_isLot_208 : decode cL_isLot 208 = .ok (.ifCond .eq 17, 3) := by decide +kernel
theorem dL_isLot_211 : decode cL_isLot 211 = .ok (.aload_n 0, 1) := by decide +kernel
theorem dL_isLot_212 : decode cL_isLot 212 = .ok (.iload_n 1, 1) := by decide +kernel
theorem dL_isLot_213 : decode cL_isLot 213 = .ok (.invokevirtual 69, 3) := by decide +kernel
theorem dL_isLot_216 : decode cL_isLot 216 = .ok (.iload 9, 2) := by decide +kernel
theorem dL_isLot_218 : decode cL_isLot 218 = .ok (.if_icmp .ne 7, 3) := by decide +kernel
theorem dL_isLot_221 : decode cL_isLot 221 = .ok (.iconst 1, 1) := by decide +kernel
theorem dL_isLot_222 : decode cL_isLot 222 = .ok (.goto 4, 3) := by decide +kernel
theorem dL_isLot_225 : decode cL_isLot 225 = .ok (.iconst 0, 1) := by decide +kernel
theorem dL_isLot_226 : decode cL_isLot 226 = .ok (.istore 8, 2) := by decide +kernel
theorem dL_isLot_228 : decode cL_isLot 228 = .ok (.iconst 0, 1) := by decide +kernel
theorem dL_isLot_229 : decode cL_isLot 229 = .ok (.istore 10, 2) := by decide +kernel
theorem dL_isLot_231 : decode cL_isLot 231 = .ok (.iload 10, 2) := by decide +kernel
theorem dL_isLot_233 : decode cL_isLot 233 = .ok (.bipush 8, 2) := by decide +kernel
theorem dL_isLot_235 : decode cL_isLot 235 = .ok (.if_icmp .ge 108, 3) := by decide +kernel
theorem dL_isLot_238 : decode cL_isLot 238 = .ok (.iload 8, 2) := by decide +kernel
theorem dL_isLot_240 : decode cL_isLot 240 = .ok (.ifCond .eq 103, 3) := by decide +kernel
theorem dL_isLot_243 : decode cL_isLot 243 = .ok (.aload_n 0, 1) := by decide +kernel
theorem dL_isLot_244 : decode cL_isLot 244 = .ok (.iload_n 1, 1) := by decide +kernel
theorem dL_isLot_245 : decode cL_isLot 245 = .ok (.iload 10, 2) := by decide +kernel
theorem dL_isLot_247 : decode cL_isLot 247 = .ok (.invokevirtual 72, 3) := by decide +kernel
theorem dL_isLot_250 : decode cL_isLot 250 = .ok (.istore 11, 2) := by decide +kernel
theorem dL_isLot_252 : decode cL_isLot 252 = .ok (.iload 11, 2) := by decide +kernel
theorem dL_isLot_254 : decode cL_isLot 254 = .ok (.ifCond .lt 7, 3) := by decide +kernel
theorem dL_isLot_257 : decode cL_isLot 257 = .ok (.iconst 1, 1) := by decide +kernel
theorem dL_isLot_258 : decode cL_isLot 258 = .ok (.goto 4, 3) := by decide +kernel
theorem dL_isLot_261 : decode cL_isLot 261 = .ok (.iconst 0, 1) := by decide +kernel
theorem dL_isLot_262 : decode cL_isLot 262 = .ok (.aload_n 0, 1) := by decide +kernel
theorem dL_isLot_263 : decode cL_isLot 263 = .ok (.iload_n 1, 1) := by decide +kernel
theorem dL_isLot_264 : decode cL_isLot 264 = .ok (.iconst 4, 1) := by decide +kernel
theorem dL_isLot_265 : decode cL_isLot 265 = .ok (.invokevirtual 36, 3) := by decide +kernel
theorem dL_isLot_268 : decode cL_isLot 268 = .ok (.iload 10, 2) := by decide +kernel
theorem dL_isLot_270 : decode cL_isLot 270 = .ok (.ishr, 1) := by decide +kernel
theorem dL_isLot_271 : decode cL_isLot 271 = .ok (.iconst 1, 1) := by decide +kernel
theorem dL_isLot_272 : decode cL_isLot 272 = .ok (.iand, 1) := by decide +kernel
theorem dL_isLot_273 : decode cL_isLot 273 = .ok (.iconst 1, 1) := by decide +kernel
theorem dL_isLot_274 : decode cL_isLot 274 = .ok (.if_icmp .ne 7, 3) := by decide +kernel
theorem dL_isLot_277 : decode cL_isLot 277 = .ok (.iconst 1, 1) := by decide +kernel
theorem dL_isLot_278 : decode cL_isLot 278 = .ok (.goto 4, 3) := by decide +kernel
theorem dL_isLot_281 : decode cL_isLot 281 = .ok (.iconst 0, 1) := by decide +kernel
theorem dL_isLot_282 : decode cL_isLot 282 = .ok (.if_icmp .ne 52, 3) := by decide +kernel
theorem dL_isLot_285 : decode cL_isLot 285 = .ok (.iload 11, 2) := by decide +kernel
theorem dL_isLot_287 : decode cL_isLot 287 = .ok (.ifCond .lt 43, 3) := by decide +kernel
theorem dL_isLot_290 : decode cL_isLot 290 = .ok (.aload_n 0, 1) := by decide +kernel
theorem dL_isLot_291 : decode cL_isLot 291 = .ok (.iload_n 1, 1) := by decide +kernel
theorem dL_isLot_292 : decode cL_isLot 292 = .ok (.iload 11, 2) := by decide +kernel
theorem dL_isLot_294 : decode cL_isLot 294 = .ok (.sipush 1000, 3) := by decide +kernel
theorem dL_isLot_297 : decode cL_isLot 297 = .ok (.idiv, 1) := by decide +kernel
theorem dL_isLot_298 : decode cL_isLot 298 = .ok (.iload 11, 2) := by decide +kernel
theorem dL_isLot_300 : decode cL_isLot 300 = .ok (.sipush 1000, 3) := by decide +kernel
theorem dL_isLot_303 : decode cL_isLot 303 = .ok (.irem, 1) := by decide +kernel
theorem dL_isLot_304 : decode cL_isLot 304 = .ok (.invokevirtual 75, 3) := by decide +kernel
theorem dL_isLot_307 : decode cL_isLot 307 = .ok (.ifCond .le 27, 3) := by decide +kernel
theorem dL_isLot_310 : decode cL_isLot 310 = .ok (.aload_n 0, 1) := by decide +kernel
theorem dL_isLot_311 : decode cL_isLot 311 = .ok (.iload_n 1, 1) := by decide +kernel
theorem dL_isLot_312 : decode cL_isLot 312 = .ok (.iload 11, 2) := by decide +kernel
theorem dL_isLot_314 : decode cL_isLot 314 = .ok (.sipush 1000, 3) := by decide +kernel
theorem dL_isLot_317 : decode cL_isLot 317 = .ok (.idiv, 1) := by decide +kernel
theorem dL_isLot_318 : decode cL_isLot 318 = .ok (.iload 11, 2) := by decide +kernel
theorem dL_isLot_320 : decode cL_isLot 320 = .ok (.sipush 1000, 3) := by decide +kernel
theorem dL_isLot_323 : decode cL_isLot 323 = .ok (.irem, 1) := by decide +kernel
theorem dL_isLot_324 : decode cL_isLot 324 = .ok (.invokevirtual 79, 3) := by decide +kernel
theorem dL_isLot_327 : decode cL_isLot 327 = .ok (.ifCond .le 7, 3) := by decide +kernel
theorem dL_isLot_330 : decode cL_isLot 330 = .ok (.iconst 1, 1) := by decide +kernel
theorem dL_isLot_331 : decode cL_isLot 331 = .ok (.goto 4, 3) := by decide +kernel
theorem dL_isLot_334 : decode cL_isLot 334 = .ok (.iconst 0, 1) := by decide +kernel
theorem dL_isLot_335 : decode cL_isLot 335 = .ok (.istore 8, 2) := by decide +kernel
theorem dL_isLot_337 : decode cL_isLot 337 = .ok (.iinc 10 1, 3) := by decide +kernel
theorem dL_isLot_340 : decode cL_isLot 340 = .ok (.goto (-109), 3) := by decide +kernel
theorem dL_isLot_343 : decode cL_isLot 343 = .ok (.iload 8, 2) := by decide +kernel
theorem dL_isLot_345 : decode cL_isLot 345 = .ok (.ireturn, 1) := by decide +kernel
theorem dL_isSound_0 : decode cL_isSound 0 = .ok (.lconst 0, 1) := by decide +kernel
theorem dL_isSound_1 : decode cL_isSound 1 = .ok (.lstore 4, 2) := by decide +kernel
theorem dL_isSound_3 : decode cL_isSound 3 = .ok (.lconst 0, 1) := by decide +kernel
theorem dL_isSound_4 : decode cL_isSound 4 = .ok (.lstore 6, 2) := by decide +kernel
theorem dL_isSound_6 : decode cL_isSound 6 = .ok (.aload_n 0, 1) := by decide +kernel
theorem dL_isSound_7 : decode cL_isSound 7 = .ok (.invokevirtual 82, 3) := by decide +kernel
theorem dL_isSound_10 : decode cL_isSound 10 = .ok (.aload_n 1, 1) := by decide +kernel
theorem dL_isSound_11 : decode cL_isSound 11 = .ok (.iconst 0, 1) := by decide +kernel
theorem dL_isSound_12 : decode cL_isSound 12 = .ok (.iaload, 1) := by decide +kernel
theorem dL_isSound_13 : decode cL_isSound 13 = .ok (.if_icmp .ne 48, 3) := by decide +kernel
theorem dL_isSound_16 : decode cL_isSound 16 = .ok (.aload_n 0, 1) := by decide +kernel
theorem dL_isSound_17 : decode cL_isSound 17 = .ok (.iconst 0, 1) := by decide +kernel
theorem dL_isSound_18 : decode cL_isSound 18 = .ok (.invokevirtual 86, 3) := by decide +kernel
theorem dL_isSound_21 : decode cL_isSound 21 = .ok (.aload_n 0, 1) := by decide +kernel
theorem dL_isSound_22 : decode cL_isSound 22 = .ok (.iconst 1, 1) := by decide +kernel
theorem dL_isSound_23 : decode cL_isSound 23 = .ok (.invokevirtual 86, 3) := by decide +kernel
theorem dL_isSound_26 : decode cL_isSound 26 = .ok (.aload_n 0, 1) := by decide +kernel
theorem dL_isSound_27 : decode cL_isSound 27 = .ok (.iconst 2, 1) := by decide +kernel
theorem dL_isSound_28 : decode cL_isSound 28 = .ok (.invokevirtual 86, 3) := by decide +kernel
theorem dL_isSound_31 : decode cL_isSound 31 = .ok (.ladd, 1) := by decide +kernel
theorem dL_isSound_32 : decode cL_isSound 32 = .ok (.aload_n 0, 1) := by decide +kernel
theorem dL_isSound_33 : decode cL_isSound 33 = .ok (.iconst 3, 1) := by decide +kernel
theorem dL_isSound_34 : decode cL_isSound 34 = .ok (.invokevirtual 86, 3) := by decide +kernel
theorem dL_isSound_37 : decode cL_isSound 37 = .ok (.ladd, 1) := by decide +kernel
theorem dL_isSound_38 : decode cL_isSound 38 = .ok (.lcmp, 1) := by decide +kernel
theorem dL_isSound_39 : decode cL_isSound 39 = .ok (.ifCond .ne 22, 3) := by decide +kernel
theorem dL_isSound_42 : decode cL_isSound 42 = .ok (.aload_n 0, 1) := by decide +kernel
theorem dL_isSound_43 : decode cL_isSound 43 = .ok (.bipush 7, 2) := by decide +kernel
theorem dL_isSound_45 : decode cL_isSound 45 = .ok (.aload_n 1, 1) := by decide +kernel
theorem dL_isSound_46 : decode cL_isSound 46 = .ok (.iconst 2, 1) := by decide +kernel
theorem dL_isSound_47 : decode cL_isSound 47 = .ok (.iaload, 1) := by decide +kernel
theorem dL_isSound_48 : decode cL_isSound 48 = .ok (.iconst 0, 1) := by decide +kernel
theorem dL_isSound_49 : decode cL_isSound 49 = .ok (.invokestatic 90, 3) := by decide +kernel
theorem dL_isSound_52 : decode cL_isSound 52 = .ok (.ldc 41, 2) := by decide +kernel
theorem dL_isSound_54 : decode cL_isSound 54 = .ok (.if_icmp .ne 7, 3) := by decide +kernel
theorem dL_isSound_57 : decode cL_isSound 57 = .ok (.iconst 1, 1) := by decide +kernel
theorem dL_isSound_58 : decode cL_isSound 58 = .ok (.goto 4, 3) := by decide +kernel
theorem dL_isSound_61 : decode cL_isSound 61 = .ok (.iconst 0, 1) := by decide +kernel
theorem dL_isSound_62 : decode cL_isSound 62 = .ok (.istore 8, 2) := by decide +kernel
theorem dL_isSound_64 : decode cL_isSound 64 = .ok (.iconst 0, 1) := by decide +kernel
theorem dL_isSound_65 : decode cL_isSound 65 = .ok (.istore 9, 2) := by decide +kernel
theorem dL_isSound_67 : decode cL_isSound 67 = .ok (.iload 9, 2) := by decide +kernel
theorem dL_isSound_69 : decode cL_isSound 69 = .ok (.bipush 10, 2) := by decide +kernel
theorem dL_isSound_71 : decode cL_isSound 71 = .ok (.if_icmp .ge 130, 3) := by decide +kernel
theorem dL_isSound_74 : decode cL_isSound 74 = .ok (.aload_n 0, 1) := by decide +kernel
theorem dL_isSound_75 : decode cL_isSound 75 = .ok (.iload 9, 2) := by decide +kernel
theorem dL_isSound_77 : decode cL_isSound 77 = .ok (.bipush 6, 2) := by decide +kernel
theorem dL_isSound_79 : decode cL_isSound 79 = .ok (.invokevirtual 52, 3) := by decide +kernel
theorem dL_isSound_82 : decode cL_isSound 82 = .ok (.istore 10, 2) := by decide +kernel
theorem dL_isSound_84 : decode cL_isSound 84 = .ok (.aload_n 0, 1) := by decide +kernel
theorem dL_isSound_85 : decode cL_isSound 85 = .ok (.iload 9, 2) := by decide +kernel
theorem dL_isSound_87 : decode cL_isSound 87 = .ok (.iconst 3, 1) := by decide +kernel
theorem dL_isSound_88 : decode cL_isSound 88 = .ok (.invokevirtual 52, 3) := by decide +kernel
theorem dL_isSound_91 : decode cL_isSound 91 = .ok (.istore 11, 2) := by decide +kernel
theorem dL_isSound_93 : decode cL_isSound 93 = .ok (.lload 4, 2) := by decide +kernel
theorem dL_isSound_95 : decode cL_isSound 95 = .ok (.aload_n 0, 1) := by decide +kernel
theorem dL_isSound_96 : decode cL_isSound 96 = .ok (.iload 9, 2) := by decide +kernel
theorem dL_isSound_98 : decode cL_isSound 98 = .ok (.iconst 0, 1) := by decide +kernel
theorem dL_isSound_99 : decode cL_isSound 99 = .ok (.invokevirtual 52, 3) := by decide +kernel
theorem dL_isSound_102 : decode cL_isSound 102 = .ok (.i2l, 1) := by decide +kernel
theorem dL_isSound_103 : decode cL_isSound 103 = .ok (.ladd, 1) := by decide +kernel
theorem dL_isSound_104 : decode cL_isSound 104 = .ok (.lstore 4, 2) := by decide +kernel
theorem dL_isSound_106 : decode cL_isSound 106 = .ok (.iload 8, 2) := by decide +kernel
theorem dL_isSound_108 : decode cL_isSound 108 = .ok (.ifCond .eq 84, 3) := by decide +kernel
theorem dL_isSound_111 : decode cL_isSound 111 = .ok (.iload 11, 2) := by decide +kernel
theorem dL_isSound_113 : decode cL_isSound 113 = .ok (.iload 9, 2) := by decide +kernel
theorem dL_isSound_115 : decode cL_isSound 115 = .ok (.if_icmp .ge 77, 3) := by decide +kernel
theorem dL_isSound_118 : decode cL_isSound 118 = .ok (.aload_n 0, 1) := by decide +kernel
theorem dL_isSound_119 : decode cL_isSound 119 = .ok (.iload 9, 2) := by decide +kernel
theorem dL_isSound_121 : decode cL_isSound 121 = .ok (.iconst 4, 1) := by decide +kernel
theorem dL_isSound_122 : decode cL_isSound 122 = .ok (.invokevirtual 52, 3) := by decide +kernel
theorem dL_isSound_125 : decode cL_isSound 125 = .ok (.aload_n 0, 1) := by decide +kernel
theorem dL_isSound_126 : decode cL_isSound 126 = .ok (.iload 9, 2) := by decide +kernel
theorem dL_isSound_128 : decode cL_isSound 128 = .ok (.iconst 1, 1) := by decide +kernel
theorem dL_isSound_129 : decode cL_isSound 129 = .ok (.invokevirtual 52, 3) := by decide +kernel
theorem dL_isSound_132 : decode cL_isSound 132 = .ok (.iload 11, 2) := by decide +kernel
theorem dL_isSound_134 : decode cL_isSound 134 = .ok (.ifCond .ge 7, 3) := by decide +kernel
theorem dL_isSound_137 : decode cL_isSound 137 = .ok (.iconst 0, 1) := by decide +kernel
theorem dL_isSound_138 : decode cL_isSound 138 = .ok (.goto 10, 3) := by decide +kernel
theorem dL_isSound_141 : decode cL_isSound 141 = .ok (.aload_n 0, 1) := by decide +kernel
theorem dL_isSound_142 : decode cL_isSound 142 = .ok (.iload 11, 2) := by decide +kernel
theorem dL_isSound_144 : decode cL_isSound 144 = .ok (.iconst 4, 1) := by decide +kernel
theorem dL_isSound_145 : decode cL_isSound 145 = .ok (.invokevirtual 52, 3) := by decide +kernel
theorem dL_isSound_148 : decode cL_isSound 148 = .ok (.iadd, 1) := by decide +kernel
theorem dL_isSound_149 : decode cL_isSound 149 = .ok (.if_icmp .ne 43, 3) := by decide +kernel
theorem dL_isSound_152 : decode cL_isSound 152 = .ok (.iload 10, 2) := by decide +kernel
theorem dL_isSound_154 : decode cL_isSound 154 = .ok (.ifCond .ge 7, 3) := by decide +kernel
theorem dL_isSound_157 : decode cL_isSound 157 = .ok (.iconst 1, 1) := by decide +kernel
theorem dL_isSound_158 : decode cL_isSound 158 = .ok (.goto 4, 3) := by decide +kernel
theorem dL_isSound_161 : decode cL_isSound 161 = .ok (.iconst 0, 1) := by decide +kernel
theorem dL_isSound_162 : decode cL_isSound 162 = .ok (.aload_n 0, 1) := by decide +kernel
theorem dL_isSound_163 : decode cL_isSound 163 = .ok (.iload 9, 2) := by decide +kernel
theorem dL_isSound_165 : decode cL_isSound 165 = .ok (.iconst 0, 1) := by decide +kernel
theorem dL_isSound_166 : decode cL_isSound 166 = .ok (.invokevirtual 52, 3) := by decide +kernel
theorem dL_isSound_169 : decode cL_isSound 169 = .ok (.ifCond .ne 7, 3) := by decide +kernel
theorem dL_isSound_172 : decode cL_isSound 172 = .ok (.iconst 1, 1) := by decide +kernel
theorem dL_isSound_173 : decode cL_isSound 173 = .ok (.goto 4, 3) := by decide +kernel
theorem dL_isSound_176 : decode cL_isSound 176 = .ok (.iconst 0, 1) := by decide +kernel
theorem dL_isSound_177 : decode cL_isSound 177 = .ok (.if_icmp .ne 15, 3) := by decide +kernel
theorem dL_isSound_180 : decode cL_isSound 180 = .ok (.iload 10, 2) := by decide +kernel
theorem dL_isSound_182 : decode cL_isSound 182 = .ok (.aload_n 1, 1) := by decide +kernel
theorem dL_isSound_183 : decode cL_isSound 183 = .ok (.iconst 0, 1) := by decide +kernel
theorem dL_isSound_184 : decode cL_isSound 184 = .ok (.iaload, 1) := by decide +kernel
theorem dL_isSound_185 : decode cL_isSound 185 = .ok (.if_icmp .ge 7, 3) := by decide +kernel
theorem dL_isSound_188 : decode cL_isSound 188 = .ok (.iconst 1, 1) := by decide +kernel
theorem dL_isSound_189 : decode cL_isSound 189 = .ok (.goto 4, 3) := by decide +kernel
theorem dL_isSound_192 : decode cL_isSound 192 = .ok (.iconst 0, 1) := by decide +kernel
theorem dL_isSound_193 : decode cL_isSound 193 = .ok (.istore 8, 2) := by decide +kernel
theorem dL_isSound_195 : decode cL_isSound 195 = .ok (.iinc 9 1, 3) := by decide +kernel
theorem dL_isSound_198 : decode cL_isSound 198 = .ok (.goto (-131), 3) := by decide +kernel
theorem dL_isSound_201 : decode cL_isSound 201 = .ok (.iconst 0, 1) := by decide +kernel
theorem dL_isSound_202 : decode cL_isSound 202 = .ok (.istore 9, 2) := by decide +kernel
theorem dL_isSound_204 : decode cL_isSound 204 = .ok (.iload 9, 2) := by decide +kernel
theorem dL_isSound_206 : decode cL_isSound 206 = .ok (.aload_n 1, 1) := by decide +kernel
theorem dL_isSound_207 : decode cL_isSound 207 = .ok (.iconst 1, 1) := by decide +kernel
theorem dL_isSound_208 : decode cL_isSound 208 = .ok (.iaload, 1) := by decide +kernel
theorem dL_isSound_209 : decode cL_isSound 209 = .ok (.if_icmp .ge 87, 3) := by decide +kernel
theorem dL_isSound_212 : decode cL_isSound 212 = .ok (.iload 8, 2) := by decide +kernel
theorem dL_isSound_214 : decode cL_isSound 214 = .ok (.ifCond .eq 73, 3) := by decide +kernel
theorem dL_isSound_217 : decode cL_isSound 217 = .ok (.aload_n 0, 1) := by decide +kernel
theorem dL_isSound_218 : decode cL_isSound 218 = .ok (.iload 9, 2) := by decide +kernel
theorem dL_isSound_220 : decode cL_isSound 220 = .ok (.iconst 0, 1) := by decide +kernel
theorem dL_isSound_221 : decode cL_isSound 221 = .ok (.invokevirtual 94, 3) := by decide +kernel
theorem dL_isSound_224 : decode cL_isSound 224 = .ok (.aload_n 2, 1) := by decide +kernel
theorem dL_isSound_225 : decode cL_isSound 225 = .ok (.iload 9, 2) := by decide +kernel
theorem dL_isSound_227 : decode cL_isSound 227 = .ok (.iaload, 1) := by decide +kernel
theorem dL_isSound_228 : decode cL_isSound 228 = .ok (.if_icmp .ne 59, 3) := by decide +kernel
theorem dL_isSound_231 : decode cL_isSound 231 = .ok (.aload_n 0, 1) := by decide +kernel
theorem dL_isSound_232 : decode cL_isSound 232 = .ok (.iload 9, 2) := by decide +kernel
theorem dL_isSound_234 : decode cL_isSound 234 = .ok (.iconst 1, 1) := by decide +kernel
theorem dL_isSound_235 : decode cL_isSound 235 = .ok (.invokevirtual 94, 3) := by decide +kernel
theorem dL_isSound_238 : decode cL_isSound 238 = .ok (.aload_n 2, 1) := by decide +kernel
theorem dL_isSound_239 : decode cL_isSound 239 = .ok (.bipush 6, 2) := by decide +kernel
theorem dL_isSound_241 : decode cL_isSound 241 = .ok (.iload 9, 2) := by decide +kernel
theorem dL_isSound_243 : decode cL_isSound 243 = .ok (.iadd, 1) := by decide +kernel
theorem dL_isSound_244 : decode cL_isSound 244 = .ok (.iaload, 1) := by decide +kernel
theorem dL_isSound_245 : decode cL_isSound 245 = .ok (.if_icmp .ne 42, 3) := by decide +kernel
theorem dL_isSound_248 : decode cL_isSound 248 = .ok (.aload_n 0, 1) := by decide +kernel
theorem dL_isSound_249 : decode cL_isSound 249 = .ok (.iload 9, 2) := by decide +kernel
theorem dL_isSound_251 : decode cL_isSound 251 = .ok (.iconst 2, 1) := by decide +kernel
theorem dL_isSound_252 : decode cL_isSound 252 = .ok (.invokevirtual 94, 3) := by decide +kernel
theorem dL_isSound_255 : decode cL_isSound 255 = .ok (.aload_n 2, 1) := by decide +kernel
theorem dL_isSound_256 : decode cL_isSound 256 = .ok (.bipush 12, 2) := by decide +kernel
theorem dL_isSound_258 : decode cL_isSound 258 = .ok (.iload 9, 2) := by decide +kernel
theorem dL_isSound_260 : decode cL_isSound 260 = .ok (.iadd, 1) := by decide +kernel
theorem dL_isSound_261 : decode cL_isSound 261 = .ok (.iaload, 1) := by decide +kernel
theorem dL_isSound_262 : decode cL_isSound 262 = .ok (.if_icmp .ne 25, 3) := by decide +kernel
theorem dL_isSound_265 : decode cL_isSound 265 = .ok (.aload_n 0, 1) := by decide +kernel
theorem dL_isSound_266 : decode cL_isSound 266 = .ok (.iload 9, 2) := by decide +kernel
theorem dL_isSound_268 : decode cL_isSound 268 = .ok (.iconst 3, 1) := by decide +kernel
theorem dL_isSound_269 : decode cL_isSound 269 = .ok (.invokevirtual 94, 3) := by decide +kernel
theorem dL_isSound_272 : decode cL_isSound 272 = .ok (.aload_n 0, 1) := by decide +kernel
theorem dL_isSound_273 : decode cL_isSound 273 = .ok (.iload 9, 2) := by decide +kernel
theorem dL_isSound_275 : decode cL_isSound 275 = .ok (.aload_n 1, 1) := by decide +kernel
theorem dL_isSound_276 : decode cL_isSound 276 = .ok (.aload_n 2, 1) := by decide +kernel
theorem dL_isSound_277 : decode cL_isSound 277 = .ok (.invokestatic 97, 3) := by decide +kernel
theorem dL_isSound_280 : decode cL_isSound 280 = .ok (.if_icmp .ne 7, 3) := by decide +kernel
theorem dL_isSound_283 : decode cL_isSound 283 = .ok (.iconst 1, 1) := by decide +kernel
theorem dL_isSound_284 : decode cL_isSound 284 = .ok (.goto 4, 3) := by decide +kernel
theorem dL_isSound_287 : decode cL_isSound 287 = .ok (.iconst 0, 1) := by decide +kernel
theorem dL_isSound_288 : decode cL_isSound 288 = .ok (.istore 8, 2) := by decide +kernel
theorem dL_isSound_290 : decode cL_isSound 290 = .ok (.iinc 9 1, 3) := by decide +kernel
theorem dL_isSound_293 : decode cL_isSound 293 = .ok (.goto (-89), 3) := by decide +kernel
theorem dL_isSound_296 : decode cL_isSound 296 = .ok (.iconst 0, 1) := by decide +kernel
theorem dL_isSound_297 : decode cL_isSound 297 = .ok (.istore 9, 2) := by decide +kernel
theorem dL_isSound_299 : decode cL_isSound 299 = .ok (.iload 9, 2) := by decide +kernel
theorem dL_isSound_301 : decode cL_isSound 301 = .ok (.aload_n 1, 1) := by decide +kernel
theorem dL_isSound_302 : decode cL_isSound 302 = .ok (.iconst 2, 1) := by decide +kernel
theorem dL_isSound_303 : decode cL_isSound 303 = .ok (.iaload, 1) := by decide +kernel
theorem dL_isSound_304 : decode cL_isSound 304 = .ok (.if_icmp .ge 57, 3) := by decide +kernel
theorem dL_isSound_307 : decode cL_isSound 307 = .ok (.iload 8, 2) := by decide +kernel
theorem dL_isSound_309 : decode cL_isSound 309 = .ok (.ifCond .eq 52, 3) := by decide +kernel
theorem dL_isSound_312 : decode cL_isSound 312 = .ok (.aload_n 0, 1) := by decide +kernel
theorem dL_isSound_313 : decode cL_isSound 313 = .ok (.iload 9, 2) := by decide +kernel
theorem dL_isSound_315 : decode cL_isSound 315 = .ok (.aload_n 1, 1) := by decide +kernel
theorem dL_isSound_316 : decode cL_isSound 316 = .ok (.aload_n 3, 1) := by decide +kernel
theorem dL_isSound_317 : decode cL_isSound 317 = .ok (.invokestatic 101, 3) := by decide +kernel
theorem dL_isSound_320 : decode cL_isSound 320 = .ok (.istore 8, 2) := by decide +kernel
theorem dL_isSound_322 : decode cL_isSound 322 = .ok (.lload 6, 2) := by decide +kernel
theorem dL_isSound_324 : decode cL_isSound 324 = .ok (.aload_n 3, 1) := by decide +kernel
theorem dL_isSound_325 : decode cL_isSound 325 = .ok (.iload 9, 2) := by decide +kernel
theorem dL_isSound_327 : decode cL_isSound 327 = .ok (.iaload, 1) := by decide +kernel
theorem dL_isSound_328 : decode cL_isSound 328 = .ok (.bipush 10, 2) := by decide +kernel
theorem dL_isSound_330 : decode cL_isSound 330 = .ok (.irem, 1) := by decide +kernel
theorem dL_isSound_331 : decode cL_isSound 331 = .ok (.ifCond .le 20, 3) := by decide +kernel
theorem dL_isSound_334 : decode cL_isSound 334 = .ok (.aload_n 3, 1) := by decide +kernel
theorem dL_isSound_335 : decode cL_isSound 335 = .ok (.iload 9, 2) := by decide +kernel
theorem dL_isSound_337 : decode cL_isSound 337 = .ok (.iaload, 1) := by decide +kernel
theorem dL_isSound_338 : decode cL_isSound 338 = .ok (.bipush 10, 2) := by decide +kernel
theorem dL_isSound_340 : decode cL_isSound 340 = .ok (.idiv, 1) := by decide +kernel
theorem dL_isSound_341 : decode cL_isSound 341 = .ok (.bipush 10, 2) := by decide +kernel
theorem dL_isSound_343 : decode cL_isSound 343 = .ok (.irem, 1) := by decide +kernel
theorem dL_isSound_344 : decode cL_isSound 344 = .ok (.ifCond .ne 7, 3) := by decide +kernel
theorem dL_isSound_347 : decode cL_isSound 347 = .ok (.lconst 1, 1) := by decide +kernel
theorem dL_isSound_348 : decode cL_isSound 348 = .ok (.goto 4, 3) := by decide +kernel
theorem dL_isSound_351 : decode cL_isSound 351 = .ok (.lconst 0, 1) := by decide +kernel
theorem dL_isSound_352 : decode cL_isSound 352 = .ok (.ladd, 1) := by decide +kernel
theorem dL_isSound_353 : decode cL_isSound 353 = .ok (.lstore 6, 2) := by decide +kernel
theorem dL_isSound_355 : decode cL_isSound 355 = .ok (.iinc 9 1, 3) := by decide +kernel
theorem dL_isSound_358 : decode cL_isSound 358 = .ok (.goto (-59), 3) := by decide +kernel
theorem dL_isSound_361 : decode cL_isSound 361 = .ok (.iload 8, 2) := by decide +kernel
theorem dL_isSound_363 : decode cL_isSound 363 = .ok (.ifCond .eq 30, 3) := by decide +kernel
theorem dL_isSound_366 : decode cL_isSound 366 = .ok (.lload 4, 2) := by decide +kernel
theorem dL_isSound_368 : decode cL_isSound 368 = .ok (.aload_n 0, 1) := by decide +kernel
theorem dL_isSound_369 : decode cL_isSound 369 = .ok (.iconst 1, 1) := by decide +kernel
theorem dL_isSound_370 : decode cL_isSound 370 = .ok (.invokevirtual 86, 3) := by decide +kernel
theorem dL_isSound_373 : decode cL_isSound 373 = .ok (.lcmp, 1) := by decide +kernel
theorem dL_isSound_374 : decode cL_isSound 374 = .ok (.ifCond .ne 19, 3) := by decide +kernel
theorem dL_isSound_377 : decode cL_isSound 377 = .ok (.lload 6, 2) := by decide +kernel
theorem dL_isSound_379 : decode cL_isSound 379 = .ok (.aload_n 0, 1) := by decide +kernel
theorem dL_isSound_380 : decode cL_isSound 380 = .ok (.bipush 6, 2) := by decide +kernel
theorem dL_isSound_382 : decode cL_isSound 382 = .ok (.invokevirtual 86, 3) := by decide +kernel
theorem dL_isSound_385 : decode cL_isSound 385 = .ok (.lcmp, 1) := by decide +kernel
theorem dL_isSound_386 : decode cL_isSound 386 = .ok (.ifCond .ne 7, 3) := by decide +kernel
theorem dL_isSound_389 : decode cL_isSound 389 = .ok (.iconst 1, 1) := by decide +kernel
theorem dL_isSound_390 : decode cL_isSound 390 = .ok (.goto 4, 3) := by decide +kernel
theorem dL_isSound_393 : decode cL_isSound 393 = .ok (.iconst 0, 1) := by decide +kernel
theorem dL_isSound_394 : decode cL_isSound 394 = .ok (.ireturn, 1) := by decide +kernel
theorem dL_isWhole_0 : decode cL_isWhole 0 = .ok (.iconst 0, 1) := by decide +kernel
theorem dL_isWhole_1 : decode cL_isWhole 1 = .ok (.istore_n 3, 1) := by decide +kernel
theorem dL_isWhole_2 : decode cL_isWhole 2 = .ok (.iconst 0, 1) := by decide +kernel
theorem dL_isWhole_3 : decode cL_isWhole 3 = .ok (.istore 4, 2) := by decide +kernel
theorem dL_isWhole_5 : decode cL_isWhole 5 = .ok (.iconst 0, 1) := by decide +kernel
theorem dL_isWhole_6 : decode cL_isWhole 6 = .ok (.istore 5, 2) := by decide +kernel
theorem dL_isWhole_8 : decode cL_isWhole 8 = .ok (.iconst 0, 1) := by decide +kernel
theorem dL_isWhole_9 : decode cL_isWhole 9 = .ok (.istore 6, 2) := by decide +kernel
theorem dL_isWhole_11 : decode cL_isWhole 11 = .ok (.iload 6, 2) := by decide +kernel
theorem dL_isWhole_13 : decode cL_isWhole 13 = .ok (.bipush 10, 2) := by decide +kernel
theorem dL_isWhole_15 : decode cL_isWhole 15 = .ok (.if_icmp .ge 80, 3) := by decide +kernel
theorem dL_isWhole_18 : decode cL_isWhole 18 = .ok (.iconst 0, 1) := by decide +kernel
theorem dL_isWhole_19 : decode cL_isWhole 19 = .ok (.istore 7, 2) := by decide +kernel
theorem dL_isWhole_21 : decode cL_isWhole 21 = .ok (.iload 7, 2) := by decide +kernel
theorem dL_isWhole_23 : decode cL_isWhole 23 = .ok (.aload_n 2, 1) := by decide +kernel
theorem dL_isWhole_24 : decode cL_isWhole 24 = .ok (.iconst 0, 1) := by decide +kernel
theorem dL_isWhole_25 : decode cL_isWhole 25 = .ok (.iaload, 1) := by decide +kernel
theorem dL_isWhole_26 : decode cL_isWhole 26 = .ok (.if_icmp .ge 63, 3) := by decide +kernel
theorem dL_isWhole_29 : decode cL_isWhole 29 = .ok (.aload_n 0, 1) := by decide +kernel
theorem dL_isWhole_30 : decode cL_isWhole 30 = .ok (.iload_n 1, 1) := by decide +kernel
theorem dL_isWhole_31 : decode cL_isWhole 31 = .ok (.iload 6, 2) := by decide +kernel
theorem dL_isWhole_33 : decode cL_isWhole 33 = .ok (.iload 7, 2) := by decide +kernel
theorem dL_isWhole_35 : decode cL_isWhole 35 = .ok (.invokevirtual 75, 3) := by decide +kernel
theorem dL_isWhole_38 : decode cL_isWhole 38 = .ok (.istore 8, 2) := by decide +kernel
theorem dL_isWhole_40 : decode cL_isWhole 40 = .ok (.iload_n 3, 1) := by decide +kernel
theorem dL_isWhole_41 : decode cL_isWhole 41 = .ok (.iload 8, 2) := by decide +kernel
theorem dL_isWhole_43 : decode cL_isWhole 43 = .ok (.iadd, 1) := by decide +kernel
theorem dL_isWhole_44 : decode cL_isWhole 44 = .ok (.istore_n 3, 1) := by decide +kernel
theorem dL_isWhole_45 : decode cL_isWhole 45 = .ok (.iload 4, 2) := by decide +kernel
theorem dL_isWhole_47 : decode cL_isWhole 47 = .ok (.iload 8, 2) := by decide +kernel
theorem dL_isWhole_49 : decode cL_isWhole 49 = .ok (.ifCond .le 15, 3) := by decide +kernel
theorem dL_isWhole_52 : decode cL_isWhole 52 = .ok (.aload_n 0, 1) := by decide +kernel
theorem dL_isWhole_53 : decode cL_isWhole 53 = .ok (.iload_n 1, 1) := by decide +kernel
theorem dL_isWhole_54 : decode cL_isWhole 54 = .ok (.iload 6, 2) := by decide +kernel
theorem dL_isWhole_56 : decode cL_isWhole 56 = .ok (.iload 7, 2) := by decide +kernel
theorem dL_isWhole_58 : decode cL_isWhole 58 = .ok (.invokevirtual 79, 3) := by decide +kernel
theorem dL_isWhole_61 : decode cL_isWhole 61 = .ok (.goto 4, 3) := by decide +kernel
theorem dL_isWhole_64 : decode cL_isWhole 64 = .ok (.iconst 0, 1) := by decide +kernel
theorem dL_isWhole_65 : decode cL_isWhole 65 = .ok (.iadd, 1) := by decide +kernel
theorem dL_isWhole_66 : decode cL_isWhole 66 = .ok (.istore 4, 2) := by decide +kernel
theorem dL_isWhole_68 : decode cL_isWhole 68 = .ok (.iload 5, 2) := by decide +kernel
theorem dL_isWhole_70 : decode cL_isWhole 70 = .ok (.iload 8, 2) := by decide +kernel
theorem dL_isWhole_72 : decode cL_isWhole 72 = .ok (.ifCond .ge 7, 3) := by decide +kernel
theorem dL_isWhole_75 : decode cL_isWhole 75 = .ok (.iconst 1, 1) := by decide +kernel
theorem dL_isWhole_76 : decode cL_isWhole 76 = .ok (.goto 4, 3) := by decide +kernel
theorem dL_isWhole_79 : decode cL_isWhole 79 = .ok (.iconst 0, 1) := by decide +kernel
theorem dL_isWhole_80 : decode cL_isWhole 80 = .ok (.iadd, 1) := by decide +kernel
theorem dL_isWhole_81 : decode cL_isWhole 81 = .ok (.istore 5, 2) := by decide +kernel
theorem dL_isWhole_83 : decode cL_isWhole 83 = .ok (.iinc 7 1, 3) := by decide +kernel
theorem dL_isWhole_86 : decode cL_isWhole 86 = .ok (.goto (-65), 3) := by decide +kernel
theorem dL_isWhole_89 : decode cL_isWhole 89 = .ok (.iinc 6 1, 3) := by decide +kernel
theorem dL_isWhole_92 : decode cL_isWhole 92 = .ok (.goto (-81), 3) := by decide +kernel
theorem dL_isWhole_95 : decode cL_isWhole 95 = .ok (.iload_n 3, 1) := by decide +kernel
theorem dL_isWhole_96 : decode cL_isWhole 96 = .ok (.aload_n 0, 1) := by decide +kernel
theorem dL_isWhole_97 : decode cL_isWhole 97 = .ok (.iload_n 1, 1) := by decide +kernel
theorem dL_isWhole_98 : decode cL_isWhole 98 = .ok (.iconst 1, 1) := by decide +kernel
theorem dL_isWhole_99 : decode cL_isWhole 99 = .ok (.invokevirtual 36, 3) := by decide +kernel
theorem dL_isWhole_102 : decode cL_isWhole 102 = .ok (.if_icmp .ne 52, 3) := by decide +kernel
theorem dL_isWhole_105 : decode cL_isWhole 105 = .ok (.iload 4, 2) := by decide +kernel
theorem dL_isWhole_107 : decode cL_isWhole 107 = .ok (.iload_n 3, 1) := by decide +kernel
theorem dL_isWhole_108 : decode cL_isWhole 108 = .ok (.if_icmp .ne 46, 3) := by decide +kernel
theorem dL_isWhole_111 : decode cL_isWhole 111 = .ok (.iload 5, 2) := by decide +kernel
theorem dL_isWhole_113 : decode cL_isWhole 113 = .ok (.ifCond .ne 41, 3) := by decide +kernel
theorem dL_isWhole_116 : decode cL_isWhole 116 = .ok (.aload_n 0, 1) := by decide +kernel
theorem dL_isWhole_117 : decode cL_isWhole 117 = .ok (.iload_n 1, 1) := by decide +kernel
theorem dL_isWhole_118 : decode cL_isWhole 118 = .ok (.iconst 0, 1) := by decide +kernel
theorem dL_isWhole_119 : decode cL_isWhole 119 = .ok (.iconst (-1), 1) := by decide +kernel
theorem dL_isWhole_120 : decode cL_isWhole 120 = .ok (.invokevirtual 75, 3) := by decide +kernel
theorem dL_isWhole_123 : decode cL_isWhole 123 = .ok (.ifCond .ne 31, 3) := by decide +kernel
theorem dL_isWhole_126 : decode cL_isWhole 126 = .ok (.aload_n 0, 1) := by decide +kernel
theorem dL_isWhole_127 : decode cL_isWhole 127 = .ok (.iload_n 1, 1) := by decide +kernel
theorem dL_isWhole_128 : decode cL_isWhole 128 = .ok (.bipush 9, 2) := by decide +kernel
theorem dL_isWhole_130 : decode cL_isWhole 130 = .ok (.aload_n 2, 1) := by decide +kernel
theorem dL_isWhole_131 : decode cL_isWhole 131 = .ok (.iconst 0, 1) := by decide +kernel
theorem dL_isWhole_132 : decode cL_isWhole 132 = .ok (.iaload, 1) := by decide +kernel
theorem dL_isWhole_133 : decode cL_isWhole 133 = .ok (.invokevirtual 75, 3) := by decide +kernel
theorem dL_isWhole_136 : decode cL_isWhole 136 = .ok (.ifCond .ne 18, 3) := by decide +kernel
theorem dL_isWhole_139 : decode cL_isWhole 139 = .ok (.aload_n 0, 1) := by decide +kernel
theorem dL_isWhole_140 : decode cL_isWhole 140 = .ok (.iload_n 1, 1) := by decide +kernel
theorem dL_isWhole_141 : decode cL_isWhole 141 = .ok (.iconst 3, 1) := by decide +kernel
theorem dL_isWhole_142 : decode cL_isWhole 142 = .ok (.ldc 9, 2) := by decide +kernel
theorem dL_isWhole_144 : decode cL_isWhole 144 = .ok (.invokevirtual 79, 3) := by decide +kernel
theorem dL_isWhole_147 : decode cL_isWhole 147 = .ok (.ifCond .ne 7, 3) := by decide +kernel
theorem dL_isWhole_150 : decode cL_isWhole 150 = .ok (.iconst 1, 1) := by decide +kernel
theorem dL_isWhole_151 : decode cL_isWhole 151 = .ok (.goto 4, 3) := by decide +kernel
theorem dL_isWhole_154 : decode cL_isWhole 154 = .ok (.iconst 0, 1) := by decide +kernel
theorem dL_isWhole_155 : decode cL_isWhole 155 = .ok (.ireturn, 1) := by decide +kernel
theorem dL_passes_0 : decode cL_passes 0 = .ok (.bipush 11, 2) := by decide +kernel
theorem dL_passes_2 : decode cL_passes 2 = .ok (.newarray .int, 2) := by decide +kernel
theorem dL_passes_4 : decode cL_passes 4 = .ok (.astore 5, 2) := by decide +kernel
theorem dL_passes_6 : decode cL_passes 6 = .ok (.bipush 10, 2) := by decide +kernel
theorem dL_passes_8 : decode cL_passes 8 = .ok (.newarray .int, 2) := by decide +kernel
theorem dL_passes_10 : decode cL_passes 10 = .ok (.astore 6, 2) := by decide +kernel
theorem dL_passes_12 : decode cL_passes 12 = .ok (.aload_n 0, 1) := by decide +kernel
theorem dL_passes_13 : decode cL_passes 13 = .ok (.iconst 4, 1) := by decide +kernel
theorem dL_passes_14 : decode cL_passes 14 = .ok (.invokevirtual 86, 3) := by decide +kernel
theorem dL_passes_17 : decode cL_passes 17 = .ok (.lstore 7, 2) := by decide +kernel
theorem dL_passes_19 : decode cL_passes 19 = .ok (.aload_n 0, 1) := by decide +kernel
theorem dL_passes_20 : decode cL_passes 20 = .ok (.iconst 0, 1) := by decide +kernel
theorem dL_passes_21 : decode cL_passes 21 = .ok (.invokevirtual 86, 3) := by decide +kernel
theorem dL_passes_24 : decode cL_passes 24 = .ok (.lstore 9, 2) := by decide +kernel
theorem dL_passes_26 : decode cL_passes 26 = .ok (.aload_n 0, 1) := by decide +kernel
theorem dL_passes_27 : decode cL_passes 27 = .ok (.iconst 2, 1) := by decide +kernel
theorem dL_passes_28 : decode cL_passes 28 = .ok (.invokevirtual 86, 3) := by decide +kernel
theorem dL_passes_31 : decode cL_passes 31 = .ok (.lstore 11, 2) := by decide +kernel
theorem dL_passes_33 : decode cL_passes 33 = .ok (.iconst 0, 1) := by decide +kernel
theorem dL_passes_34 : decode cL_passes 34 = .ok (.istore 13, 2) := by decide +kernel
theorem dL_passes_36 : decode cL_passes 36 = .ok (.iload 13, 2) := by decide +kernel
theorem dL_passes_38 : decode cL_passes 38 = .ok (.bipush 10, 2) := by decide +kernel
theorem dL_passes_40 : decode cL_passes 40 = .ok (.if_icmp .ge 109, 3) := by decide +kernel
theorem dL_passes_43 : decode cL_passes 43 = .ok (.aload_n 0, 1) := by decide +kernel
theorem dL_passes_44 : decode cL_passes 44 = .ok (.iload 13, 2) := by decide +kernel
theorem dL_passes_46 : decode cL_passes 46 = .ok (.iconst 0, 1) := by decide +kernel
theorem dL_passes_47 : decode cL_passes 47 = .ok (.invokevirtual 52, 3) := by decide +kernel
theorem dL_passes_50 : decode cL_passes 50 = .ok (.aload_n 0, 1) := by decide +kernel
theorem dL_passes_51 : decode cL_passes 51 = .ok (.iload 13, 2) := by decide +kernel
theorem dL_passes_53 : decode cL_passes 53 = .ok (.iconst 1, 1) := by decide +kernel
theorem dL_passes_54 : decode cL_passes 54 = .ok (.invokevirtual 52, 3) := by decide +kernel
theorem dL_passes_57 : decode cL_passes 57 = .ok (.idiv, 1) := by decide +kernel
theorem dL_passes_58 : decode cL_passes 58 = .ok (.istore 14, 2) := by decide +kernel
theorem dL_passes_60 : decode cL_passes 60 = .ok (.aload_n 0, 1) := by decide +kernel
theorem dL_passes_61 : decode cL_passes 61 = .ok (.iload 13, 2) := by decide +kernel
theorem dL_passes_63 : decode cL_passes 63 = .ok (.iconst 3, 1) := by decide +kernel
theorem dL_passes_64 : decode cL_passes 64 = .ok (.invokevirtual 52, 3) := by decide +kernel
theorem dL_passes_67 : decode cL_passes 67 = .ok (.istore 15, 2) := by decide +kernel
theorem dL_passes_69 : decode cL_passes 69 = .ok (.aload 5, 2) := by decide +kernel
theorem dL_passes_71 : decode cL_passes 71 = .ok (.iload 13, 2) := by decide +kernel
theorem dL_passes_73 : decode cL_passes 73 = .ok (.dup2, 1) := by decide +kernel
theorem dL_passes_74 : decode cL_passes 74 = .ok (.iaload, 1) := by decide +kernel
theorem dL_passes_75 : decode cL_passes 75 = .ok (.aload_n 0, 1) := by decide +kernel
theorem dL_passes_76 : decode cL_passes 76 = .ok (.iload 13, 2) := by decide +kernel
theorem dL_passes_78 : decode cL_passes 78 = .ok (.iconst 0, 1) := by decide +kernel
theorem dL_passes_79 : decode cL_passes 79 = .ok (.invokevirtual 52, 3) := by decide +kernel
theorem dL_passes_82 : decode cL_passes 82 = .ok (.iload 14, 2) := by decide +kernel
theorem dL_passes_84 : decode cL_passes 84 = .ok (.isub, 1) := by decide +kernel
theorem dL_passes_85 : decode cL_passes 85 = .ok (.iload_n 1, 1) := by decide +kernel
theorem dL_passes_86 : decode cL_passes 86 = .ok (.iadd, 1) := by decide +kernel
theorem dL_passes_87 : decode cL_passes 87 = .ok (.iadd, 1) := by decide +kernel
theorem dL_passes_88 : decode cL_passes 88 = .ok (.iastore, 1) := by decide +kernel
theorem dL_passes_89 : decode cL_passes 89 = .ok (.aload 5, 2) := by decide +kernel
theorem dL_passes_91 : decode cL_passes 91 = .ok (.iload 15, 2) := by decide +kernel
theorem dL_passes_93 : decode cL_passes 93 = .ok (.ifCond .ge 8, 3) := by decide +kernel
theorem dL_passes_96 : decode cL_passes 96 = .ok (.bipush 10, 2) := by decide +kernel
theorem dL_passes_98 : decode cL_passes 98 = .ok (.goto 5, 3) := by decide +kernel
theorem dL_passes_101 : decode cL_passes 101 = .ok (.iload 15, 2) := by decide +kernel
theorem dL_passes_103 : decode cL_passes 103 = .ok (.dup2, 1) := by decide +kernel
theorem dL_passes_104 : decode cL_passes 104 = .ok (.iaload, 1) := by decide +kernel
theorem dL_passes_105 : decode cL_passes 105 = .ok (.iload 14, 2) := by decide +kernel
theorem dL_passes_107 : decode cL_passes 107 = .ok (.iadd, 1) := by decide +kernel
theorem dL_passes_108 : decode cL_passes 108 = .ok (.iastore, 1) := by decide +kernel
theorem dL_passes_109 : decode cL_passes 109 = .ok (.aload 6, 2) := by decide +kernel
theorem dL_passes_111 : decode cL_passes 111 = .ok (.iload 13, 2) := by decide +kernel
theorem dL_passes_113 : decode cL_passes 113 = .ok (.aload_n 0, 1) := by decide +kernel
theorem dL_passes_114 : decode cL_passes 114 = .ok (.iload 13, 2) := by decide +kernel
theorem dL_passes_116 : decode cL_passes 116 = .ok (.iconst 5, 1) := by decide +kernel
theorem dL_passes_117 : decode cL_passes 117 = .ok (.invokevirtual 52, 3) := by decide +kernel
theorem dL_passes_120 : decode cL_passes 120 = .ok (.iastore, 1) := by decide +kernel
theorem dL_passes_121 : decode cL_passes 121 = .ok (.lload 7, 2) := by decide +kernel
theorem dL_passes_123 : decode cL_passes 123 = .ok (.aload 6, 2) := by decide +kernel
theorem dL_passes_125 : decode cL_passes 125 = .ok (.iload 13, 2) := by decide +kernel
theorem dL_passes_127 : decode cL_passes 127 = .ok (.iaload, 1) := by decide +kernel
theorem dL_passes_128 : decode cL_passes 128 = .ok (.ifCond .le 11, 3) := by decide +kernel
theorem dL_passes_131 : decode cL_passes 131 = .ok (.aload_n 3, 1) := by decide +kernel
theorem dL_passes_132 : decode cL_passes 132 = .ok (.iload 13, 2) := by decide +kernel
theorem dL_passes_134 : decode cL_passes 134 = .ok (.iaload, 1) := by decide +kernel
theorem dL_passes_135 : decode cL_passes 135 = .ok (.i2l, 1) := by decide +kernel
theorem dL_passes_136 : decode cL_passes 136 = .ok (.goto 4, 3) := by decide +kernel
theorem dL_passes_139 : decode cL_passes 139 = .ok (.lconst 0, 1) := by decide +kernel
theorem dL_passes_140 : decode cL_passes 140 = .ok (.ladd, 1) := by decide +kernel
theorem dL_passes_141 : decode cL_passes 141 = .ok (.lstore 7, 2) := by decide +kernel
theorem dL_passes_143 : decode cL_passes 143 = .ok (.iinc 13 1, 3) := by decide +kernel
theorem dL_passes_146 : decode cL_passes 146 = .ok (.goto (-110), 3) := by decide +kernel
theorem dL_passes_149 : decode cL_passes 149 = .ok (.aload_n 2, 1) := by decide +kernel
theorem dL_passes_150 : decode cL_passes 150 = .ok (.iconst 0, 1) := by decide +kernel
theorem dL_passes_151 : decode cL_passes 151 = .ok (.dup2, 1) := by decide +kernel
theorem dL_passes_152 : decode cL_passes 152 = .ok (.iaload, 1) := by decide +kernel
theorem dL_passes_153 : decode cL_passes 153 = .ok (.iconst 1, 1) := by decide +kernel
theorem dL_passes_154 : decode cL_passes 154 = .ok (.iadd, 1) := by decide +kernel
theorem dL_passes_155 : decode cL_passes 155 = .ok (.iastore, 1) := by decide +kernel
theorem dL_passes_156 : decode cL_passes 156 = .ok (.aload_n 0, 1) := by decide +kernel
theorem dL_passes_157 : decode cL_passes 157 = .ok (.iconst 1, 1) := by decide +kernel
theorem dL_passes_158 : decode cL_passes 158 = .ok (.iload_n 1, 1) := by decide +kernel
theorem dL_passes_159 : decode cL_passes 159 = .ok (.invokevirtual 105, 3) := by decide +kernel
theorem dL_passes_162 : decode cL_passes 162 = .ok (.aload_n 2, 1) := by decide +kernel
theorem dL_passes_163 : decode cL_passes 163 = .ok (.iconst 0, 1) := by decide +kernel
theorem dL_passes_164 : decode cL_passes 164 = .ok (.iaload, 1) := by decide +kernel
theorem dL_passes_165 : decode cL_passes 165 = .ok (.if_icmp .ne 67, 3) := by decide +kernel
theorem dL_passes_168 : decode cL_passes 168 = .ok (.aload_n 0, 1) := by decide +kernel
theorem dL_passes_169 : decode cL_passes 169 = .ok (.iconst 0, 1) := by decide +kernel
theorem dL_passes_170 : decode cL_passes 170 = .ok (.invokevirtual 86, 3) := by decide +kernel
theorem dL_passes_173 : decode cL_passes 173 = .ok (.lload 9, 2) := by decide +kernel
theorem dL_passes_175 : decode cL_passes 175 = .ok (.ldc2_w 108, 3) := by decide +kernel
theorem dL_passes_178 : decode cL_passes 178 = .ok (.iload_n 1, 1) := by decide +kernel
theorem dL_passes_179 : decode cL_passes 179 = .ok (.i2l, 1) := by decide +kernel
theorem dL_passes_180 : decode cL_passes 180 = .ok (.lmul, 1) := by decide +kernel
theorem dL_passes_181 : decode cL_passes 181 = .ok (.ladd, 1) := by decide +kernel
theorem dL_passes_182 : decode cL_passes 182 = .ok (.lcmp, 1) := by decide +kernel
theorem dL_passes_183 : decode cL_passes 183 = .ok (.ifCond .ne 49, 3) := by decide +kernel
theorem dL_passes_186 : decode cL_passes 186 = .ok (.aload_n 0, 1) := by decide +kernel
theorem dL_passes_187 : decode cL_passes 187 = .ok (.iconst 2, 1) := by decide +kernel
theorem dL_passes_188 : decode cL_passes 188 = .ok (.invokevirtual 86, 3) := by decide +kernel
theorem dL_passes_191 : decode cL_passes 191 = .ok (.lload 11, 2) := by decide +kernel
theorem dL_passes_193 : decode cL_passes 193 = .ok (.aload 5, 2) := by decide +kernel
theorem dL_passes_195 : decode cL_passes 195 = .ok (.bipush 10, 2) := by decide +kernel
theorem dL_passes_197 : decode cL_passes 197 = .ok (.iaload, 1) := by decide +kernel
theorem dL_passes_198 : decode cL_passes 198 = .ok (.i2l, 1) := by decide +kernel
theorem dL_passes_199 : decode cL_passes 199 = .ok (.ladd, 1) := by decide +kernel
theorem dL_passes_200 : decode cL_passes 200 = .ok (.lcmp, 1) := by decide +kernel
theorem dL_passes_201 : decode cL_passes 201 = .ok (.ifCond .ne 31, 3) := by decide +kernel
theorem dL_passes_204 : decode cL_passes 204 = .ok (.aload_n 0, 1) := by decide +kernel
theorem dL_passes_205 : decode cL_passes 205 = .ok (.iconst 4, 1) := by decide +kernel
theorem dL_passes_206 : decode cL_passes 206 = .ok (.invokevirtual 86, 3) := by decide +kernel
