theorem dX0_init_0 : decode cX0_init 0 = .ok (.aload_n 0, 1) := by decide +kernel
theorem dX0_init_1 : decode cX0_init 1 = .ok (.invokespecial 3, 3) := by decide +kernel
theorem dX0_init_4 : decode cX0_init 4 = .ok (.aload_n 0, 1) := by decide +kernel
theorem dX0_init_5 : decode cX0_init 5 = .ok (.bipush 30, 2) := by decide +kernel
theorem dX0_init_7 : decode cX0_init 7 = .ok (.newarray .int, 2) := by decide +kernel
theorem dX0_init_9 : decode cX0_init 9 = .ok (.putfield 9, 3) := by decide +kernel
theorem dX0_init_12 : decode cX0_init 12 = .ok (.aload_n 0, 1) := by decide +kernel
theorem dX0_init_13 : decode cX0_init 13 = .ok (.bipush 30, 2) := by decide +kernel
theorem dX0_init_15 : decode cX0_init 15 = .ok (.newarray .int, 2) := by decide +kernel
theorem dX0_init_17 : decode cX0_init 17 = .ok (.putfield 15, 3) := by decide +kernel
theorem dX0_init_20 : decode cX0_init 20 = .ok (.aload_n 0, 1) := by decide +kernel
theorem dX0_init_21 : decode cX0_init 21 = .ok (.aload_n 1, 1) := by decide +kernel
theorem dX0_init_22 : decode cX0_init 22 = .ok (.putfield 18, 3) := by decide +kernel
theorem dX0_init_25 : decode cX0_init 25 = .ok (.return_, 1) := by decide +kernel
theorem dX0_add_0 : decode cX0_add 0 = .ok (.aload_n 0, 1) := by decide +kernel
theorem dX0_add_1 : decode cX0_add 1 = .ok (.getfield 22, 3) := by decide +kernel
theorem dX0_add_4 : decode cX0_add 4 = .ok (.ifCond .lt 12, 3) := by decide +kernel
theorem dX0_add_7 : decode cX0_add 7 = .ok (.aload_n 0, 1) := by decide +kernel
theorem dX0_add_8 : decode cX0_add 8 = .ok (.getfield 22, 3) := by decide +kernel
theorem dX0_add_11 : decode cX0_add 11 = .ok (.bipush 30, 2) := by decide +kernel
theorem dX0_add_13 : decode cX0_add 13 = .ok (.if_icmp .lt 4, 3) := by decide +kernel
theorem dX0_add_16 : decode cX0_add 16 = .ok (.return_, 1) := by decide +kernel
theorem dX0_add_17 : decode cX0_add 17 = .ok (.aload_n 0, 1) := by decide +kernel
theorem dX0_add_18 : decode cX0_add 18 = .ok (.getfield 9, 3) := by decide +kernel
theorem dX0_add_21 : decode cX0_add 21 = .ok (.aload_n 0, 1) := by decide +kernel
theorem dX0_add_22 : decode cX0_add 22 = .ok (.getfield 22, 3) := by decide +kernel
theorem dX0_add_25 : decode cX0_add 25 = .ok (.iload_n 1, 1) := by decide +kernel
theorem dX0_add_26 : decode cX0_add 26 = .ok (.iastore, 1) := by decide +kernel
theorem dX0_add_27 : decode cX0_add 27 = .ok (.aload_n 0, 1) := by decide +kernel
theorem dX0_add_28 : decode cX0_add 28 = .ok (.getfield 15, 3) := by decide +kernel
theorem dX0_add_31 : decode cX0_add 31 = .ok (.aload_n 0, 1) := by decide +kernel
theorem dX0_add_32 : decode cX0_add 32 = .ok (.getfield 22, 3) := by decide +kernel
theorem dX0_add_35 : decode cX0_add 35 = .ok (.iload_n 2, 1) := by decide +kernel
theorem dX0_add_36 : decode cX0_add 36 = .ok (.iastore, 1) := by decide +kernel
theorem dX0_add_37 : decode cX0_add 37 = .ok (.aload_n 0, 1) := by decide +kernel
theorem dX0_add_38 : decode cX0_add 38 = .ok (.dup, 1) := by decide +kernel
theorem dX0_add_39 : decode cX0_add 39 = .ok (.getfield 22, 3) := by decide +kernel
theorem dX0_add_42 : decode cX0_add 42 = .ok (.iconst 1, 1) := by decide +kernel
theorem dX0_add_43 : decode cX0_add 43 = .ok (.iadd, 1) := by decide +kernel
theorem dX0_add_44 : decode cX0_add 44 = .ok (.putfield 22, 3) := by decide +kernel
theorem dX0_add_47 : decode cX0_add 47 = .ok (.return_, 1) := by decide +kernel
theorem dX0_firstWrong_0 : decode cX0_firstWrong 0 = .ok (.iconst 0, 1) := by decide +kernel
theorem dX0_firstWrong_1 : decode cX0_firstWrong 1 = .ok (.istore_n 2, 1) := by decide +kernel
theorem dX0_firstWrong_2 : decode cX0_firstWrong 2 = .ok (.iload_n 2, 1) := by decide +kernel
theorem dX0_firstWrong_3 : decode cX0_firstWrong 3 = .ok (.aload_n 0, 1) := by decide +kernel
theorem dX0_firstWrong_4 : decode cX0_firstWrong 4 = .ok (.getfield 22, 3) := by decide +kernel
theorem dX0_firstWrong_7 : decode cX0_firstWrong 7 = .ok (.if_icmp .ge 41, 3) := by decide +kernel
theorem dX0_firstWrong_10 : decode cX0_firstWrong 10 = .ok (.iload_n 2, 1) := by decide +kernel
theorem dX0_firstWrong_11 : decode cX0_firstWrong 11 = .ok (.bipush 30, 2) := by decide +kernel
theorem dX0_firstWrong_13 : decode cX0_firstWrong 13 = .ok (.if_icmp .ge 35, 3) := by decide +kernel
theorem dX0_firstWrong_16 : decode cX0_firstWrong 16 = .ok (.aload_n 0, 1) := by decide +kernel
theorem dX0_firstWrong_17 : decode cX0_firstWrong 17 = .ok (.getfield 18, 3) := by decide +kernel
theorem dX0_firstWrong_20 : decode cX0_firstWrong 20 = .ok (.iconst 0, 1) := by decide +kernel
theorem dX0_firstWrong_21 : decode cX0_firstWrong 21 = .ok (.aload_n 0, 1) := by decide +kernel
theorem dX0_firstWrong_22 : decode cX0_firstWrong 22 = .ok (.getfield 9, 3) := by decide +kernel
theorem dX0_firstWrong_25 : decode cX0_firstWrong 25 = .ok (.iload_n 2, 1) := by decide +kernel
theorem dX0_firstWrong_26 : decode cX0_firstWrong 26 = .ok (.iaload, 1) := by decide +kernel
theorem dX0_firstWrong_27 : decode cX0_firstWrong 27 = .ok (.iload_n 1, 1) := by decide +kernel
theorem dX0_firstWrong_28 : decode cX0_firstWrong 28 = .ok (.invokevirtual 26, 3) := by decide +kernel
theorem dX0_firstWrong_31 : decode cX0_firstWrong 31 = .ok (.aload_n 0, 1) := by decide +kernel
theorem dX0_firstWrong_32 : decode cX0_firstWrong 32 = .ok (.getfield 15, 3) := by decide +kernel
theorem dX0_firstWrong_35 : decode cX0_firstWrong 35 = .ok (.iload_n 2, 1) := by decide +kernel
theorem dX0_firstWrong_36 : decode cX0_firstWrong 36 = .ok (.iaload, 1) := by decide +kernel
theorem dX0_firstWrong_37 : decode cX0_firstWrong 37 = .ok (.if_icmp .eq 5, 3) := by decide +kernel
theorem dX0_firstWrong_40 : decode cX0_firstWrong 40 = .ok (.iload_n 2, 1) := by decide +kernel
theorem dX0_firstWrong_41 : decode cX0_firstWrong 41 = .ok (.ireturn, 1) := by decide +kernel
theorem dX0_firstWrong_42 : decode cX0_firstWrong 42 = .ok (.iinc 2 1, 3) := by decide +kernel
theorem dX0_firstWrong_45 : decode cX0_firstWrong 45 = .ok (.goto (-43), 3) := by decide +kernel
theorem dX0_firstWrong_48 : decode cX0_firstWrong 48 = .ok (.iconst (-1), 1) := by decide +kernel
theorem dX0_firstWrong_49 : decode cX0_firstWrong 49 = .ok (.ireturn, 1) := by decide +kernel
theorem dX1_init_0 : decode cX1_init 0 = .ok (.aload_n 0, 1) := by decide +kernel
theorem dX1_init_1 : decode cX1_init 1 = .ok (.invokespecial 3, 3) := by decide +kernel
theorem dX1_init_4 : decode cX1_init 4 = .ok (.aload_n 0, 1) := by decide +kernel
theorem dX1_init_5 : decode cX1_init 5 = .ok (.bipush 40, 2) := by decide +kernel
theorem dX1_init_7 : decode cX1_init 7 = .ok (.newarray .int, 2) := by decide +kernel
theorem dX1_init_9 : decode cX1_init 9 = .ok (.putfield 9, 3) := by decide +kernel
theorem dX1_init_12 : decode cX1_init 12 = .ok (.aload_n 0, 1) := by decide +kernel
theorem dX1_init_13 : decode cX1_init 13 = .ok (.bipush 40, 2) := by decide +kernel
theorem dX1_init_15 : decode cX1_init 15 = .ok (.newarray .int, 2) := by decide +kernel
theorem dX1_init_17 : decode cX1_init 17 = .ok (.putfield 15, 3) := by decide +kernel
theorem dX1_init_20 : decode cX1_init 20 = .ok (.aload_n 0, 1) := by decide +kernel
theorem dX1_init_21 : decode cX1_init 21 = .ok (.bipush 40, 2) := by decide +kernel
theorem dX1_init_23 : decode cX1_init 23 = .ok (.newarray .long, 2) := by decide +kernel
theorem dX1_init_25 : decode cX1_init 25 = .ok (.putfield 18, 3) := by decide +kernel
theorem dX1_init_28 : decode cX1_init 28 = .ok (.aload_n 0, 1) := by decide +kernel
theorem dX1_init_29 : decode cX1_init 29 = .ok (.bipush 40, 2) := by decide +kernel
theorem dX1_init_31 : decode cX1_init 31 = .ok (.newarray .long, 2) := by decide +kernel
theorem dX1_init_33 : decode cX1_init 33 = .ok (.putfield 22, 3) := by decide +kernel
theorem dX1_init_36 : decode cX1_init 36 = .ok (.aload_n 0, 1) := by decide +kernel
theorem dX1_init_37 : decode cX1_init 37 = .ok (.aload_n 1, 1) := by decide +kernel
theorem dX1_init_38 : decode cX1_init 38 = .ok (.putfield 25, 3) := by decide +kernel
theorem dX1_init_41 : decode cX1_init 41 = .ok (.aload_n 0, 1) := by decide +kernel
theorem dX1_init_42 : decode cX1_init 42 = .ok (.aload_n 2, 1) := by decide +kernel
theorem dX1_init_43 : decode cX1_init 43 = .ok (.putfield 29, 3) := by decide +kernel
theorem dX1_init_46 : decode cX1_init 46 = .ok (.return_, 1) := by decide +kernel
theorem dX1_lookAround_0 : decode cX1_lookAround 0 = .ok (.iconst 0, 1) := by decide +kernel
theorem dX1_lookAround_1 : decode cX1_lookAround 1 = .ok (.istore_n 2, 1) := by decide +kernel
theorem dX1_lookAround_2 : decode cX1_lookAround 2 = .ok (.iload_n 2, 1) := by decide +kernel
theorem dX1_lookAround_3 : decode cX1_lookAround 3 = .ok (.aload_n 0, 1) := by decide +kernel
theorem dX1_lookAround_4 : decode cX1_lookAround 4 = .ok (.getfield 25, 3) := by decide +kernel
theorem dX1_lookAround_7 : decode cX1_lookAround 7 = .ok (.getfield 33, 3) := by decide +kernel
theorem dX1_lookAround_10 : decode cX1_lookAround 10 = .ok (.if_icmp .ge 23, 3) := by decide +kernel
theorem dX1_lookAround_13 : decode cX1_lookAround 13 = .ok (.aload_n 0, 1) := by decide +kernel
theorem dX1_lookAround_14 : decode cX1_lookAround 14 = .ok (.getfield 9, 3) := by decide +kernel
theorem dX1_lookAround_17 : decode cX1_lookAround 17 = .ok (.iload_n 2, 1) := by decide +kernel
theorem dX1_lookAround_18 : decode cX1_lookAround 18 = .ok (.iconst 0, 1) := by decide +kernel
theorem dX1_lookAround_19 : decode cX1_lookAround 19 = .ok (.iastore, 1) := by decide +kernel
theorem dX1_lookAround_20 : decode cX1_lookAround 20 = .ok (.aload_n 0, 1) := by decide +kernel
theorem dX1_lookAround_21 : decode cX1_lookAround 21 = .ok (.getfield 15, 3) := by decide +kernel
theorem dX1_lookAround_24 : decode cX1_lookAround 24 = .ok (.iload_n 2, 1) := by decide +kernel
theorem dX1_lookAround_25 : decode cX1_lookAround 25 = .ok (.iconst 0, 1) := by decide +kernel
theorem dX1_lookAround_26 : decode cX1_lookAround 26 = .ok (.iastore, 1) := by decide +kernel
theorem dX1_lookAround_27 : decode cX1_lookAround 27 = .ok (.iinc 2 1, 3) := by decide +kernel
theorem dX1_lookAround_30 : decode cX1_lookAround 30 = .ok (.goto (-28), 3) := by decide +kernel
theorem dX1_lookAround_33 : decode cX1_lookAround 33 = .ok (.iconst 0, 1) := by decide +kernel
theorem dX1_lookAround_34 : decode cX1_lookAround 34 = .ok (.istore_n 2, 1) := by decide +kernel
theorem dX1_lookAround_35 : decode cX1_lookAround 35 = .ok (.iload_n 2, 1) := by decide +kernel
theorem dX1_lookAround_36 : decode cX1_lookAround 36 = .ok (.aload_n 0, 1) := by decide +kernel
theorem dX1_lookAround_37 : decode cX1_lookAround 37 = .ok (.getfield 25, 3) := by decide +kernel
theorem dX1_lookAround_40 : decode cX1_lookAround 40 = .ok (.getfield 33, 3) := by decide +kernel
theorem dX1_lookAround_43 : decode cX1_lookAround 43 = .ok (.if_icmp .ge 41, 3) := by decide +kernel
theorem dX1_lookAround_46 : decode cX1_lookAround 46 = .ok (.aload_n 0, 1) := by decide +kernel
theorem dX1_lookAround_47 : decode cX1_lookAround 47 = .ok (.iload_n 2, 1) := by decide +kernel
theorem dX1_lookAround_48 : decode cX1_lookAround 48 = .ok (.aload_n 0, 1) := by decide +kernel
theorem dX1_lookAround_49 : decode cX1_lookAround 49 = .ok (.getfield 25, 3) := by decide +kernel
theorem dX1_lookAround_52 : decode cX1_lookAround 52 = .ok (.iload_n 2, 1) := by decide +kernel
theorem dX1_lookAround_53 : decode cX1_lookAround 53 = .ok (.aload_n 0, 1) := by decide +kernel
theorem dX1_lookAround_54 : decode cX1_lookAround 54 = .ok (.getfield 29, 3) := by decide +kernel
theorem dX1_lookAround_57 : decode cX1_lookAround 57 = .ok (.getfield 39, 3) := by decide +kernel
theorem dX1_lookAround_60 : decode cX1_lookAround 60 = .ok (.iload_n 2, 1) := by decide +kernel
theorem dX1_lookAround_61 : decode cX1_lookAround 61 = .ok (.iaload, 1) := by decide +kernel
theorem dX1_lookAround_62 : decode cX1_lookAround 62 = .ok (.iload_n 2, 1) := by decide +kernel
theorem dX1_lookAround_63 : decode cX1_lookAround 63 = .ok (.iload_n 1, 1) := by decide +kernel
theorem dX1_lookAround_64 : decode cX1_lookAround 64 = .ok (.if_icmp .ne 7, 3) := by decide +kernel
theorem dX1_lookAround_67 : decode cX1_lookAround 67 = .ok (.iconst 1, 1) := by decide +kernel
theorem dX1_lookAround_68 : decode cX1_lookAround 68 = .ok (.goto 4, 3) := by decide +kernel
theorem dX1_lookAround_71 : decode cX1_lookAround 71 = .ok (.iconst 0, 1) := by decide +kernel
theorem dX1_lookAround_72 : decode cX1_lookAround 72 = .ok (.invokevirtual 44, 3) := by decide +kernel
theorem dX1_lookAround_75 : decode cX1_lookAround 75 = .ok (.invokevirtual 48, 3) := by decide +kernel
theorem dX1_lookAround_78 : decode cX1_lookAround 78 = .ok (.iinc 2 1, 3) := by decide +kernel
theorem dX1_lookAround_81 : decode cX1_lookAround 81 = .ok (.goto (-46), 3) := by decide +kernel
theorem dX1_lookAround_84 : decode cX1_lookAround 84 = .ok (.return_, 1) := by decide +kernel
theorem dX1_tryGrass_0 : decode cX1_tryGrass 0 = .ok (.aload_n 0, 1) := by decide +kernel
theorem dX1_tryGrass_1 : decode cX1_tryGrass 1 = .ok (.iload_n 1, 1) := by decide +kernel
theorem dX1_tryGrass_2 : decode cX1_tryGrass 2 = .ok (.aload_n 0, 1) := by decide +kernel
theorem dX1_tryGrass_3 : decode cX1_tryGrass 3 = .ok (.getfield 25, 3) := by decide +kernel
theorem dX1_tryGrass_6 : decode cX1_tryGrass 6 = .ok (.iload_n 1, 1) := by decide +kernel
theorem dX1_tryGrass_7 : decode cX1_tryGrass 7 = .ok (.iload_n 2, 1) := by decide +kernel
theorem dX1_tryGrass_8 : decode cX1_tryGrass 8 = .ok (.iload_n 1, 1) := by decide +kernel
theorem dX1_tryGrass_9 : decode cX1_tryGrass 9 = .ok (.aload_n 0, 1) := by decide +kernel
theorem dX1_tryGrass_10 : decode cX1_tryGrass 10 = .ok (.getfield 29, 3) := by decide +kernel
theorem dX1_tryGrass_13 : decode cX1_tryGrass 13 = .ok (.getfield 52, 3) := by decide +kernel
theorem dX1_tryGrass_16 : decode cX1_tryGrass 16 = .ok (.if_icmp .ne 7, 3) := by decide +kernel
theorem dX1_tryGrass_19 : decode cX1_tryGrass 19 = .ok (.iconst 1, 1) := by decide +kernel
theorem dX1_tryGrass_20 : decode cX1_tryGrass 20 = .ok (.goto 4, 3) := by decide +kernel
theorem dX1_tryGrass_23 : decode cX1_tryGrass 23 = .ok (.iconst 0, 1) := by decide +kernel
theorem dX1_tryGrass_24 : decode cX1_tryGrass 24 = .ok (.invokevirtual 44, 3) := by decide +kernel
theorem dX1_tryGrass_27 : decode cX1_tryGrass 27 = .ok (.invokevirtual 48, 3) := by decide +kernel
theorem dX1_tryGrass_30 : decode cX1_tryGrass 30 = .ok (.return_, 1) := by decide +kernel
theorem dX1_setLiking_0 : decode cX1_setLiking 0 = .ok (.aload_n 0, 1) := by decide +kernel
theorem dX1_setLiking_1 : decode cX1_setLiking 1 = .ok (.getfield 25, 3) := by decide +kernel
theorem dX1_setLiking_4 : decode cX1_setLiking 4 = .ok (.iload_n 1, 1) := by decide +kernel
theorem dX1_setLiking_5 : decode cX1_setLiking 5 = .ok (.invokevirtual 55, 3) := by decide +kernel
theorem dX1_setLiking_8 : decode cX1_setLiking 8 = .ok (.ifCond .ne 4, 3) := by decide +kernel
theorem dX1_setLiking_11 : decode cX1_setLiking 11 = .ok (.return_, 1) := by decide +kernel
theorem dX1_setLiking_12 : decode cX1_setLiking 12 = .ok (.iload_n 2, 1) := by decide +kernel
theorem dX1_setLiking_13 : decode cX1_setLiking 13 = .ok (.aload_n 0, 1) := by decide +kernel
theorem dX1_setLiking_14 : decode cX1_setLiking 14 = .ok (.getfield 9, 3) := by decide +kernel
theorem dX1_setLiking_17 : decode cX1_setLiking 17 = .ok (.iload_n 1, 1) := by decide +kernel
theorem dX1_setLiking_18 : decode cX1_setLiking 18 = .ok (.iaload, 1) := by decide +kernel
theorem dX1_setLiking_19 : decode cX1_setLiking 19 = .ok (.isub, 1) := by decide +kernel
theorem dX1_setLiking_20 : decode cX1_setLiking 20 = .ok (.istore_n 3, 1) := by decide +kernel
theorem dX1_setLiking_21 : decode cX1_setLiking 21 = .ok (.aload_n 0, 1) := by decide +kernel
theorem dX1_setLiking_22 : decode cX1_setLiking 22 = .ok (.getfield 9, 3) := by decide +kernel
theorem dX1_setLiking_25 : decode cX1_setLiking 25 = .ok (.iload_n 1, 1) := by decide +kernel
theorem dX1_setLiking_26 : decode cX1_setLiking 26 = .ok (.iload_n 2, 1) := by decide +kernel
theorem dX1_setLiking_27 : decode cX1_setLiking 27 = .ok (.iastore, 1) := by decide +kernel
theorem dX1_setLiking_28 : decode cX1_setLiking 28 = .ok (.iconst 0, 1) := by decide +kernel
theorem dX1_setLiking_29 : decode cX1_setLiking 29 = .ok (.istore 4, 2) := by decide +kernel
theorem dX1_setLiking_31 : decode cX1_setLiking 31 = .ok (.iload 4, 2) := by decide +kernel
theorem dX1_setLiking_33 : decode cX1_setLiking 33 = .ok (.iconst 5, 1) := by decide +kernel
theorem dX1_setLiking_34 : decode cX1_setLiking 34 = .ok (.if_icmp .ge 44, 3) := by decide +kernel
theorem dX1_setLiking_37 : decode cX1_setLiking 37 = .ok (.aload_n 0, 1) := by decide +kernel
theorem dX1_setLiking_38 : decode cX1_setLiking 38 = .ok (.getfield 25, 3) := by decide +kernel
theorem dX1_setLiking_41 : decode cX1_setLiking 41 = .ok (.iload_n 1, 1) := by decide +kernel
theorem dX1_setLiking_42 : decode cX1_setLiking 42 = .ok (.iload 4, 2) := by decide +kernel
theorem dX1_setLiking_44 : decode cX1_setLiking 44 = .ok (.invokevirtual 59, 3) := by decide +kernel
theorem dX1_setLiking_47 : decode cX1_setLiking 47 = .ok (.istore 5, 2) := by decide +kernel
theorem dX1_setLiking_49 : decode cX1_setLiking 49 = .ok (.aload_n 0, 1) := by decide +kernel
theorem dX1_setLiking_50 : decode cX1_setLiking 50 = .ok (.getfield 25, 3) := by decide +kernel
theorem dX1_setLiking_53 : decode cX1_setLiking 53 = .ok (.iload 5, 2) := by decide +kernel
theorem dX1_setLiking_55 : decode cX1_setLiking 55 = .ok (.invokevirtual 55, 3) := by decide +kernel
theorem dX1_setLiking_58 : decode cX1_setLiking 58 = .ok (.ifCond .eq 14, 3) := by decide +kernel
theorem dX1_setLiking_61 : decode cX1_setLiking 61 = .ok (.aload_n 0, 1) := by decide +kernel
theorem dX1_setLiking_62 : decode cX1_setLiking 62 = .ok (.getfield 15, 3) := by decide +kernel
theorem dX1_setLiking_65 : decode cX1_setLiking 65 = .ok (.iload 5, 2) := by decide +kernel
theorem dX1_setLiking_67 : decode cX1_setLiking 67 = .ok (.dup2, 1) := by decide +kernel
theorem dX1_setLiking_68 : decode cX1_setLiking 68 = .ok (.iaload, 1) := by decide +kernel
theorem dX1_setLiking_69 : decode cX1_setLiking 69 = .ok (.iload_n 3, 1) := by decide +kernel
theorem dX1_setLiking_70 : decode cX1_setLiking 70 = .ok (.iadd, 1) := by decide +kernel
theorem dX1_setLiking_71 : decode cX1_setLiking 71 = .ok (.iastore, 1) := by decide +kernel
theorem dX1_setLiking_72 : decode cX1_setLiking 72 = .ok (.iinc 4 1, 3) := by decide +kernel
theorem dX1_setLiking_75 : decode cX1_setLiking 75 = .ok (.goto (-44), 3) := by decide +kernel
theorem dX1_setLiking_78 : decode cX1_setLiking 78 = .ok (.return_, 1) := by decide +kernel
theorem dX1_wake_0 : decode cX1_wake 0 = .ok (.iconst 0, 1) := by decide +kernel
theorem dX1_wake_1 : decode cX1_wake 1 = .ok (.istore_n 1, 1) := by decide +kernel
theorem dX1_wake_2 : decode cX1_wake 2 = .ok (.iload_n 1, 1) := by decide +kernel
theorem dX1_wake_3 : decode cX1_wake 3 = .ok (.bipush 40, 2) := by decide +kernel
theorem dX1_wake_5 : decode cX1_wake 5 = .ok (.if_icmp .ge 16, 3) := by decide +kernel
theorem dX1_wake_8 : decode cX1_wake 8 = .ok (.aload_n 0, 1) := by decide +kernel
theorem dX1_wake_9 : decode cX1_wake 9 = .ok (.getfield 18, 3) := by decide +kernel
theorem dX1_wake_12 : decode cX1_wake 12 = .ok (.iload_n 1, 1) := by decide +kernel
theorem dX1_wake_13 : decode cX1_wake 13 = .ok (.lconst 0, 1) := by decide +kernel
theorem dX1_wake_14 : decode cX1_wake 14 = .ok (.lastore, 1) := by decide +kernel
theorem dX1_wake_15 : decode cX1_wake 15 = .ok (.iinc 1 1, 3) := by decide +kernel
theorem dX1_wake_18 : decode cX1_wake 18 = .ok (.goto (-16), 3) := by decide +kernel
theorem dX1_wake_21 : decode cX1_wake 21 = .ok (.aload_n 0, 1) := by decide +kernel
theorem dX1_wake_22 : decode cX1_wake 22 = .ok (.getfield 25, 3) := by decide +kernel
theorem dX1_wake_25 : decode cX1_wake 25 = .ok (.aload_n 0, 1) := by decide +kernel
theorem dX1_wake_26 : decode cX1_wake 26 = .ok (.getfield 29, 3) := by decide +kernel
theorem dX1_wake_29 : decode cX1_wake 29 = .ok (.getfield 63, 3) := by decide +kernel
theorem dX1_wake_32 : decode cX1_wake 32 = .ok (.invokevirtual 55, 3) := by decide +kernel
theorem dX1_wake_35 : decode cX1_wake 35 = .ok (.ifCond .eq 18, 3) := by decide +kernel
theorem dX1_wake_38 : decode cX1_wake 38 = .ok (.aload_n 0, 1) := by decide +kernel
theorem dX1_wake_39 : decode cX1_wake 39 = .ok (.getfield 18, 3) := by decide +kernel
theorem dX1_wake_42 : decode cX1_wake 42 = .ok (.aload_n 0, 1) := by decide +kernel
theorem dX1_wake_43 : decode cX1_wake 43 = .ok (.getfield 29, 3) := by decide +kernel
theorem dX1_wake_46 : decode cX1_wake 46 = .ok (.getfield 63, 3) := by decide +kernel
theorem dX1_wake_49 : decode cX1_wake 49 = .ok (.ldc2_w 66, 3) := by decide +kernel
theorem dX1_wake_52 : decode cX1_wake 52 = .ok (.lastore, 1) := by decide +kernel
theorem dX1_wake_53 : decode cX1_wake 53 = .ok (.return_, 1) := by decide +kernel
theorem dX1_run_0 : decode cX1_run 0 = .ok (.aload_n 0, 1) := by decide +kernel
theorem dX1_run_1 : decode cX1_run 1 = .ok (.invokevirtual 68, 3) := by decide +kernel
theorem dX1_run_4 : decode cX1_run 4 = .ok (.iconst 0, 1) := by decide +kernel
theorem dX1_run_5 : decode cX1_run 5 = .ok (.istore_n 2, 1) := by decide +kernel
theorem dX1_run_6 : decode cX1_run 6 = .ok (.iload_n 2, 1) := by decide +kernel
theorem dX1_run_7 : decode cX1_run 7 = .ok (.iload_n 1, 1) := by decide +kernel
theorem dX1_run_8 : decode cX1_run 8 = .ok (.if_icmp .ge 13, 3) := by decide +kernel
theorem dX1_run_11 : decode cX1_run 11 = .ok (.aload_n 0, 1) := by decide +kernel
theorem dX1_run_12 : decode cX1_run 12 = .ok (.invokevirtual 71, 3) := by decide +kernel
theorem dX1_run_15 : decode cX1_run 15 = .ok (.iinc 2 1, 3) := by decide +kernel
theorem dX1_run_18 : decode cX1_run 18 = .ok (.goto (-12), 3) := by decide +kernel
theorem dX1_run_21 : decode cX1_run 21 = .ok (.return_, 1) := by decide +kernel
theorem dX1_passHour_0 : decode cX1_passHour 0 = .ok (.iconst 0, 1) := by decide +kernel
theorem dX1_passHour_1 : decode cX1_passHour 1 = .ok (.istore_n 1, 1) := by decide +kernel
theorem dX1_passHour_2 : decode cX1_passHour 2 = .ok (.iload_n 1, 1) := by decide +kernel
theorem dX1_passHour_3 : decode cX1_passHour 3 = .ok (.bipush 40, 2) := by decide +kernel
theorem dX1_passHour_5 : decode cX1_passHour 5 = .ok (.if_icmp .ge 16, 3) := by decide +kernel
theorem dX1_passHour_8 : decode cX1_passHour 8 = .ok (.aload_n 0, 1) := by decide +kernel
theorem dX1_passHour_9 : decode cX1_passHour 9 = .ok (.getfield 22, 3) := by decide +kernel
theorem dX1_passHour_12 : decode cX1_passHour 12 = .ok (.iload_n 1, 1) := by decide +kernel
theorem dX1_passHour_13 : decode cX1_passHour 13 = .ok (.lconst 0, 1) := by decide +kernel
theorem dX1_passHour_14 : decode cX1_passHour 14 = .ok (.lastore, 1) := by decide +kernel
theorem dX1_passHour_15 : decode cX1_passHour 15 = .ok (.iinc 1 1, 3) := by decide +kernel
theorem dX1_passHour_18 : decode cX1_passHour 18 = .ok (.goto (-16), 3) := by decide +kernel
theorem dX1_passHour_21 : decode cX1_passHour 21 = .ok (.iconst 0, 1) := by decide +kernel
theorem dX1_passHour_22 : decode cX1_passHour 22 = .ok (.istore_n 1, 1) := by decide +kernel
theorem dX1_passHour_23 : decode cX1_passHour 23 = .ok (.iload_n 1, 1) := by decide +kernel
theorem dX1_passHour_24 : decode cX1_passHour 24 = .ok (.aload_n 0, 1) := by decide +kernel
theorem dX1_passHour_25 : decode cX1_passHour 25 = .ok (.getfield 25, 3) := by decide +kernel
theorem dX1_passHour_28 : decode cX1_passHour 28 = .ok (.getfield 33, 3) := by decide +kernel
theorem dX1_passHour_31 : decode cX1_passHour 31 = .ok (.if_icmp .ge 25, 3) := by decide +kernel
theorem dX1_passHour_34 : decode cX1_passHour 34 = .ok (.aload_n 0, 1) := by decide +kernel
theorem dX1_passHour_35 : decode cX1_passHour 35 = .ok (.getfield 18, 3) := by decide +kernel
theorem dX1_passHour_38 : decode cX1_passHour 38 = .ok (.iload_n 1, 1) := by decide +kernel
theorem dX1_passHour_39 : decode cX1_passHour 39 = .ok (.laload, 1) := by decide +kernel
theorem dX1_passHour_40 : decode cX1_passHour 40 = .ok (.lconst 0, 1) := by decide +kernel
theorem dX1_passHour_41 : decode cX1_passHour 41 = .ok (.lcmp, 1) := by decide +kernel
theorem dX1_passHour_42 : decode cX1_passHour 42 = .ok (.ifCond .le 8, 3) := by decide +kernel
theorem dX1_passHour_45 : decode cX1_passHour 45 = .ok (.aload_n 0, 1) := by decide +kernel
theorem dX1_passHour_46 : decode cX1_passHour 46 = .ok (.iload_n 1, 1) := by decide +kernel
theorem dX1_passHour_47 : decode cX1_passHour 47 = .ok (.invokevirtual 74, 3) := by decide +kernel
theorem dX1_passHour_50 : decode cX1_passHour 50 = .ok (.iinc 1 1, 3) := by decide +kernel
theorem dX1_passHour_53 : decode cX1_passHour 53 = .ok (.goto (-30), 3) := by decide +kernel
theorem dX1_passHour_56 : decode cX1_passHour 56 = .ok (.iconst 0, 1) := by decide +kernel
theorem dX1_passHour_57 : decode cX1_passHour 57 = .ok (.istore_n 1, 1) := by decide +kernel
theorem dX1_passHour_58 : decode cX1_passHour 58 = .ok (.iload_n 1, 1) := by decide +kernel
theorem dX1_passHour_59 : decode cX1_passHour 59 = .ok (.bipush 40, 2) := by decide +kernel
theorem dX1_passHour_61 : decode cX1_passHour 61 = .ok (.if_icmp .ge 21, 3) := by decide +kernel
theorem dX1_passHour_64 : decode cX1_passHour 64 = .ok (.aload_n 0, 1) := by decide +kernel
theorem dX1_passHour_65 : decode cX1_passHour 65 = .ok (.getfield 18, 3) := by decide +kernel
theorem dX1_passHour_68 : decode cX1_passHour 68 = .ok (.iload_n 1, 1) := by decide +kernel
theorem dX1_passHour_69 : decode cX1_passHour 69 = .ok (.aload_n 0, 1) := by decide +kernel
theorem dX1_passHour_70 : decode cX1_passHour 70 = .ok (.getfield 22, 3) := by decide +kernel
theorem dX1_passHour_73 : decode cX1_passHour 73 = .ok (.iload_n 1, 1) := by decide +kernel
theorem dX1_passHour_74 : decode cX1_passHour 74 = .ok (.laload, 1) := by decide +kernel
theorem dX1_passHour_75 : decode cX1_passHour 75 = .ok (.lastore, 1) := by decide +kernel
theorem dX1_passHour_76 : decode cX1_passHour 76 = .ok (.iinc 1 1, 3) := by decide +kernel
theorem dX1_passHour_79 : decode cX1_passHour 79 = .ok (.goto (-21), 3) := by decide +kernel
theorem dX1_passHour_82 : decode cX1_passHour 82 = .ok (.return_, 1) := by decide +kernel
theorem dX1_partFrom_0 : decode cX1_partFrom 0 = .ok (.aload_n 0, 1) := by decide +kernel
theorem dX1_partFrom_1 : decode cX1_partFrom 1 = .ok (.getfield 15, 3) := by decide +kernel
theorem dX1_partFrom_4 : decode cX1_partFrom 4 = .ok (.iload_n 1, 1) := by decide +kernel
theorem dX1_partFrom_5 : decode cX1_partFrom 5 = .ok (.iaload, 1) := by decide +kernel
theorem dX1_partFrom_6 : decode cX1_partFrom 6 = .ok (.istore_n 2, 1) := by decide +kernel
theorem dX1_partFrom_7 : decode cX1_partFrom 7 = .ok (.iload_n 2, 1) := by decide +kernel
theorem dX1_partFrom_8 : decode cX1_partFrom 8 = .ok (.iconst 1, 1) := by decide +kernel
theorem dX1_partFrom_9 : decode cX1_partFrom 9 = .ok (.if_icmp .ge 4, 3) := by decide +kernel
theorem dX1_partFrom_12 : decode cX1_partFrom 12 = .ok (.return_, 1) := by decide +kernel
theorem dX1_partFrom_13 : decode cX1_partFrom 13 = .ok (.aload_n 0, 1) := by decide +kernel
theorem dX1_partFrom_14 : decode cX1_partFrom 14 = .ok (.getfield 18, 3) := by decide +kernel
theorem dX1_partFrom_17 : decode cX1_partFrom 17 = .ok (.iload_n 1, 1) := by decide +kernel
theorem dX1_partFrom_18 : decode cX1_partFrom 18 = .ok (.laload, 1) := by decide +kernel
theorem dX1_partFrom_19 : decode cX1_partFrom 19 = .ok (.lstore_n 3, 1) := by decide +kernel
theorem dX1_partFrom_20 : decode cX1_partFrom 20 = .ok (.aload_n 0, 1) := by decide +kernel
theorem dX1_partFrom_21 : decode cX1_partFrom 21 = .ok (.getfield 25, 3) := by decide +kernel
theorem dX1_partFrom_24 : decode cX1_partFrom 24 = .ok (.getfield 78, 3) := by decide +kernel
theorem dX1_partFrom_27 : decode cX1_partFrom 27 = .ok (.iload_n 1, 1) := by decide +kernel
theorem dX1_partFrom_28 : decode cX1_partFrom 28 = .ok (.iaload, 1) := by decide +kernel
theorem dX1_partFrom_29 : decode cX1_partFrom 29 = .ok (.iconst 1, 1) := by decide +kernel
theorem dX1_partFrom_30 : decode cX1_partFrom 30 = .ok (.isub, 1) := by decide +kernel
theorem dX1_partFrom_31 : decode cX1_partFrom 31 = .ok (.istore 5, 2) := by decide +kernel
theorem dX1_partFrom_33 : decode cX1_partFrom 33 = .ok (.iconst 0, 1) := by decide +kernel
theorem dX1_partFrom_34 : decode cX1_partFrom 34 = .ok (.istore 6, 2) := by decide +kernel
theorem dX1_partFrom_36 : decode cX1_partFrom 36 = .ok (.iload 6, 2) := by decide +kernel
theorem dX1_partFrom_38 : decode cX1_partFrom 38 = .ok (.iload 5, 2) := by decide +kernel
theorem dX1_partFrom_40 : decode cX1_partFrom 40 = .ok (.if_icmp .ge 73, 3) := by decide +kernel
theorem dX1_partFrom_43 : decode cX1_partFrom 43 = .ok (.aload_n 0, 1) := by decide +kernel
theorem dX1_partFrom_44 : decode cX1_partFrom 44 = .ok (.getfield 25, 3) := by decide +kernel
theorem dX1_partFrom_47 : decode cX1_partFrom 47 = .ok (.iload_n 1, 1) := by decide +kernel
theorem dX1_partFrom_48 : decode cX1_partFrom 48 = .ok (.iload 6, 2) := by decide +kernel
theorem dX1_partFrom_50 : decode cX1_partFrom 50 = .ok (.invokevirtual 59, 3) := by decide +kernel
theorem dX1_partFrom_53 : decode cX1_partFrom 53 = .ok (.istore 7, 2) := by decide +kernel
theorem dX1_partFrom_55 : decode cX1_partFrom 55 = .ok (.aload_n 0, 1) := by decide +kernel
theorem dX1_partFrom_56 : decode cX1_partFrom 56 = .ok (.getfield 25, 3) := by decide +kernel
theorem dX1_partFrom_59 : decode cX1_partFrom 59 = .ok (.iload 7, 2) := by decide +kernel
theorem dX1_partFrom_61 : decode cX1_partFrom 61 = .ok (.invokevirtual 55, 3) := by decide +kernel
theorem dX1_partFrom_64 : decode cX1_partFrom 64 = .ok (.ifCond .ne 6, 3) := by decide +kernel
theorem dX1_partFrom_67 : decode cX1_partFrom 67 = .ok (.goto 40, 3) := by decide +kernel
theorem dX1_partFrom_70 : decode cX1_partFrom 70 = .ok (.aload_n 0, 1) := by decide +kernel
theorem dX1_partFrom_71 : decode cX1_partFrom 71 = .ok (.getfield 18, 3) := by decide +kernel
theorem dX1_partFrom_74 : decode cX1_partFrom 74 = .ok (.iload_n 1, 1) := by decide +kernel
theorem dX1_partFrom_75 : decode cX1_partFrom 75 = .ok (.laload, 1) := by decide +kernel
theorem dX1_partFrom_76 : decode cX1_partFrom 76 = .ok (.aload_n 0, 1) := by decide +kernel
theorem dX1_partFrom_77 : decode cX1_partFrom 77 = .ok (.getfield 9, 3) := by decide +kernel
theorem dX1_partFrom_80 : decode cX1_partFrom 80 = .ok (.iload 7, 2) := by decide +kernel
theorem dX1_partFrom_82 : decode cX1_partFrom 82 = .ok (.iaload, 1) := by decide +kernel
theorem dX1_partFrom_83 : decode cX1_partFrom 83 = .ok (.i2l, 1) := by decide +kernel
theorem dX1_partFrom_84 : decode cX1_partFrom 84 = .ok (.lmul, 1) := by decide +kernel
theorem dX1_partFrom_85 : decode cX1_partFrom 85 = .ok (.iload_n 2, 1) := by decide +kernel
theorem dX1_partFrom_86 : decode cX1_partFrom 86 = .ok (.i2l, 1) := by decide +kernel
theorem dX1_partFrom_87 : decode cX1_partFrom 87 = .ok (.ldiv, 1) := by decide +kernel
theorem dX1_partFrom_88 : decode cX1_partFrom 88 = .ok (.lstore 8, 2) := by decide +kernel
theorem dX1_partFrom_90 : decode cX1_partFrom 90 = .ok (.aload_n 0, 1) := by decide +kernel
theorem dX1_partFrom_91 : decode cX1_partFrom 91 = .ok (.getfield 22, 3) := by decide +kernel
theorem dX1_partFrom_94 : decode cX1_partFrom 94 = .ok (.iload 7, 2) := by decide +kernel
theorem dX1_partFrom_96 : decode cX1_partFrom 96 = .ok (.dup2, 1) := by decide +kernel
theorem dX1_partFrom_97 : decode cX1_partFrom 97 = .ok (.laload, 1) := by decide +kernel
theorem dX1_partFrom_98 : decode cX1_partFrom 98 = .ok (.lload 8, 2) := by decide +kernel
theorem dX1_partFrom_100 : decode cX1_partFrom 100 = .ok (.ladd, 1) := by decide +kernel
theorem dX1_partFrom_101 : decode cX1_partFrom 101 = .ok (.lastore, 1) := by decide +kernel
theorem dX1_partFrom_102 : decode cX1_partFrom 102 = .ok (.lload_n 3, 1) := by decide +kernel
theorem dX1_partFrom_103 : decode cX1_partFrom 103 = .ok (.lload 8, 2) := by decide +kernel
theorem dX1_partFrom_105 : decode cX1_partFrom 105 = .ok (.lsub, 1) := by decide +kernel
theorem dX1_partFrom_106 : decode cX1_partFrom 106 = .ok (.lstore_n 3, 1) := by decide +kernel
theorem dX1_partFrom_107 : decode cX1_partFrom 107 = .ok (.iinc 6 1, 3) := by decide +kernel
theorem dX1_partFrom_110 : decode cX1_partFrom 110 = .ok (.goto (-74), 3) := by decide +kernel
theorem dX1_partFrom_113 : decode cX1_partFrom 113 = .ok (.aload_n 0, 1) := by decide +kernel
theorem dX1_partFrom_114 : decode cX1_partFrom 114 = .ok (.getfield 25, 3) := by decide +kernel
theorem dX1_partFrom_117 : decode cX1_partFrom 117 = .ok (.iload_n 1, 1) := by decide +kernel
theorem dX1_partFrom_118 : decode cX1_partFrom 118 = .ok (.iload 5, 2) := by decide +kernel
theorem dX1_partFrom_120 : decode cX1_partFrom 120 = .ok (.invokevirtual 59, 3) := by decide +kernel
theorem dX1_partFrom_123 : decode cX1_partFrom 123 = .ok (.istore 6, 2) := by decide +kernel
theorem dX1_partFrom_125 : decode cX1_partFrom 125 = .ok (.aload_n 0, 1) := by decide +kernel
theorem dX1_partFrom_126 : decode cX1_partFrom 126 = .ok (.getfield 25, 3) := by decide +kernel
theorem dX1_partFrom_129 : decode cX1_partFrom 129 = .ok (.iload 6, 2) := by decide +kernel
theorem dX1_partFrom_131 : decode cX1_partFrom 131 = .ok (.invokevirtual 55, 3) := by decide +kernel
theorem dX1_partFrom_134 : decode cX1_partFrom 134 = .ok (.ifCond .eq 14, 3) := by decide +kernel
theorem dX1_partFrom_137 : decode cX1_partFrom 137 = .ok (.aload_n 0, 1) := by decide +kernel
theorem dX1_partFrom_138 : decode cX1_partFrom 138 = .ok (.getfield 22, 3) := by decide +kernel
theorem dX1_partFrom_141 : decode cX1_partFrom 141 = .ok (.iload 6, 2) := by decide +kernel
theorem dX1_partFrom_143 : decode cX1_partFrom 143 = .ok (.dup2, 1) := by decide +kernel
theorem dX1_partFrom_144 : decode cX1_partFrom 144 = .ok (.laload, 1) := by decide +kernel
theorem dX1_partFrom_145 : decode cX1_partFrom 145 = .ok (.lload_n 3, 1) := by decide +kernel
theorem dX1_partFrom_146 : decode cX1_partFrom 146 = .ok (.ladd, 1) := by decide +kernel
theorem dX1_partFrom_147 : decode cX1_partFrom 147 = .ok (.lastore, 1) := by decide +kernel
theorem dX1_partFrom_148 : decode cX1_partFrom 148 = .ok (.return_, 1) := by decide +kernel
theorem dX1_likeliest_0 : decode cX1_likeliest 0 = .ok (.iconst 0, 1) := by decide +kernel
theorem dX1_likeliest_1 : decode cX1_likeliest 1 = .ok (.istore_n 1, 1) := by decide +kernel
theorem dX1_likeliest_2 : decode cX1_likeliest 2 = .ok (.iconst 1, 1) := by decide +kernel
theorem dX1_likeliest_3 : decode cX1_likeliest 3 = .ok (.istore_n 2, 1) := by decide +kernel
theorem dX1_likeliest_4 : decode cX1_likeliest 4 = .ok (.iload_n 2, 1) := by decide +kernel
theorem dX1_likeliest_5 : decode cX1_likeliest 5 = .ok (.aload_n 0, 1) := by decide +kernel
theorem dX1_likeliest_6 : decode cX1_likeliest 6 = .ok (.getfield 25, 3) := by decide +kernel
theorem dX1_likeliest_9 : decode cX1_likeliest 9 = .ok (.getfield 33, 3) := by decide +kernel
theorem dX1_likeliest_12 : decode cX1_likeliest 12 = .ok (.if_icmp .ge 27, 3) := by decide +kernel
theorem dX1_likeliest_15 : decode cX1_likeliest 15 = .ok (.aload_n 0, 1) := by decide +kernel
theorem dX1_likeliest_16 : decode cX1_likeliest 16 = .ok (.getfield 18, 3) := by decide +kernel
theorem dX1_likeliest_19 : decode cX1_likeliest 19 = .ok (.iload_n 2, 1) := by decide +kernel
theorem dX1_likeliest_20 : decode cX1_likeliest 20 = .ok (.laload, 1) := by decide +kernel
theorem dX1_likeliest_21 : decode cX1_likeliest 21 = .ok (.aload_n 0, 1) := by decide +kernel
theorem dX1_likeliest_22 : decode cX1_likeliest 22 = .ok (.getfield 18, 3) := by decide +kernel
theorem dX1_likeliest_25 : decode cX1_likeliest 25 = .ok (.iload_n 1, 1) := by decide +kernel
theorem dX1_likeliest_26 : decode cX1_likeliest 26 = .ok (.laload, 1) := by decide +kernel
theorem dX1_likeliest_27 : decode cX1_likeliest 27 = .ok (.lcmp, 1) := by decide +kernel
theorem dX1_likeliest_28 : decode cX1_likeliest 28 = .ok (.ifCond .le 5, 3) := by decide +kernel
theorem dX1_likeliest_31 : decode cX1_likeliest 31 = .ok (.iload_n 2, 1) := by decide +kernel
theorem dX1_likeliest_32 : decode cX1_likeliest 32 = .ok (.istore_n 1, 1) := by decide +kernel
theorem dX1_likeliest_33 : decode cX1_likeliest 33 = .ok (.iinc 2 1, 3) := by decide +kernel
theorem dX1_likeliest_36 : decode cX1_likeliest 36 = .ok (.goto (-32), 3) := by decide +kernel
theorem dX1_likeliest_39 : decode cX1_likeliest 39 = .ok (.iload_n 1, 1) := by decide +kernel
theorem dX1_likeliest_40 : decode cX1_likeliest 40 = .ok (.ireturn, 1) := by decide +kernel
theorem dX1_bestWatched_0 : decode cX1_bestWatched 0 = .ok (.iconst 0, 1) := by decide +kernel
theorem dX1_bestWatched_1 : decode cX1_bestWatched 1 = .ok (.istore_n 2, 1) := by decide +kernel
theorem dX1_bestWatched_2 : decode cX1_bestWatched 2 = .ok (.iconst (-1), 1) := by decide +kernel
theorem dX1_bestWatched_3 : decode cX1_bestWatched 3 = .ok (.istore_n 3, 1) := by decide +kernel
theorem dX1_bestWatched_4 : decode cX1_bestWatched 4 = .ok (.lconst 0, 1) := by decide +kernel
theorem dX1_bestWatched_5 : decode cX1_bestWatched 5 = .ok (.lstore 4, 2) := by decide +kernel
theorem dX1_bestWatched_7 : decode cX1_bestWatched 7 = .ok (.aload_n 0, 1) := by decide +kernel
theorem dX1_bestWatched_8 : decode cX1_bestWatched 8 = .ok (.invokevirtual 68, 3) := by decide +kernel
theorem dX1_bestWatched_11 : decode cX1_bestWatched 11 = .ok (.iconst 1, 1) := by decide +kernel
theorem dX1_bestWatched_12 : decode cX1_bestWatched 12 = .ok (.istore 6, 2) := by decide +kernel
theorem dX1_bestWatched_14 : decode cX1_bestWatched 14 = .ok (.iload 6, 2) := by decide +kernel
theorem dX1_bestWatched_16 : decode cX1_bestWatched 16 = .ok (.aload_n 0, 1) := by decide +kernel
theorem dX1_bestWatched_17 : decode cX1_bestWatched 17 = .ok (.getfield 25, 3) := by decide +kernel
theorem dX1_bestWatched_20 : decode cX1_bestWatched 20 = .ok (.getfield 81, 3) := by decide +kernel
theorem dX1_bestWatched_23 : decode cX1_bestWatched 23 = .ok (.if_icmp .gt 50, 3) := by decide +kernel
theorem dX1_bestWatched_26 : decode cX1_bestWatched 26 = .ok (.aload_n 0, 1) := by decide +kernel
theorem dX1_bestWatched_27 : decode cX1_bestWatched 27 = .ok (.invokevirtual 71, 3) := by decide +kernel
theorem dX1_bestWatched_30 : decode cX1_bestWatched 30 = .ok (.aload_n 0, 1) := by decide +kernel
theorem dX1_bestWatched_31 : decode cX1_bestWatched 31 = .ok (.invokevirtual 84, 3) := by decide +kernel
theorem dX1_bestWatched_34 : decode cX1_bestWatched 34 = .ok (.istore 7, 2) := by decide +kernel
theorem dX1_bestWatched_36 : decode cX1_bestWatched 36 = .ok (.aload_n 0, 1) := by decide +kernel
theorem dX1_bestWatched_37 : decode cX1_bestWatched 37 = .ok (.getfield 18, 3) := by decide +kernel
theorem dX1_bestWatched_40 : decode cX1_bestWatched 40 = .ok (.iload 7, 2) := by decide +kernel
theorem dX1_bestWatched_42 : decode cX1_bestWatched 42 = .ok (.laload, 1) := by decide +kernel
theorem dX1_bestWatched_43 : decode cX1_bestWatched 43 = .ok (.lload 4, 2) := by decide +kernel
theorem dX1_bestWatched_45 : decode cX1_bestWatched 45 = .ok (.lcmp, 1) := by decide +kernel
theorem dX1_bestWatched_46 : decode cX1_bestWatched 46 = .ok (.ifCond .ge 6, 3) := by decide +kernel
theorem dX1_bestWatched_49 : decode cX1_bestWatched 49 = .ok (.goto 18, 3) := by decide +kernel
theorem dX1_bestWatched_52 : decode cX1_bestWatched 52 = .ok (.iload 6, 2) := by decide +kernel
theorem dX1_bestWatched_54 : decode cX1_bestWatched 54 = .ok (.istore_n 2, 1) := by decide +kernel
theorem dX1_bestWatched_55 : decode cX1_bestWatched 55 = .ok (.iload 7, 2) := by decide +kernel
theorem dX1_bestWatched_57 : decode cX1_bestWatched 57 = .ok (.istore_n 3, 1) := by decide +kernel
theorem dX1_bestWatched_58 : decode cX1_bestWatched 58 = .ok (.aload_n 0, 1) := by decide +kernel
theorem dX1_bestWatched_59 : decode cX1_bestWatched 59 = .ok (.getfield 18, 3) := by decide +kernel
theorem dX1_bestWatched_62 : decode cX1_bestWatched 62 = .ok (.iload 7, 2) := by decide +kernel
theorem dX1_bestWatched_64 : decode cX1_bestWatched 64 = .ok (.laload, 1) := by decide +kernel
theorem dX1_bestWatched_65 : decode cX1_bestWatched 65 = .ok (.lstore 4, 2) := by decide +kernel
theorem dX1_bestWatched_67 : decode cX1_bestWatched 67 = .ok (.iinc 6 1, 3) := by decide +kernel
theorem dX1_bestWatched_70 : decode cX1_bestWatched 70 = .ok (.goto (-56), 3) := by decide +kernel
theorem dX1_bestWatched_73 : decode cX1_bestWatched 73 = .ok (.iload_n 1, 1) := by decide +kernel
theorem dX1_bestWatched_74 : decode cX1_bestWatched 74 = .ok (.ifCond .ne 5, 3) := by decide +kernel
theorem dX1_bestWatched_77 : decode cX1_bestWatched 77 = .ok (.iload_n 2, 1) := by decide +kernel
theorem dX1_bestWatched_78 : decode cX1_bestWatched 78 = .ok (.ireturn, 1) := by decide +kernel
theorem dX1_bestWatched_79 : decode cX1_bestWatched 79 = .ok (.iload_n 1, 1) := by decide +kernel
theorem dX1_bestWatched_80 : decode cX1_bestWatched 80 = .ok (.iconst 1, 1) := by decide +kernel
theorem dX1_bestWatched_81 : decode cX1_bestWatched 81 = .ok (.if_icmp .ne 14, 3) := by decide +kernel
theorem dX1_bestWatched_84 : decode cX1_bestWatched 84 = .ok (.aload_n 0, 1) := by decide +kernel
theorem dX1_bestWatched_85 : decode cX1_bestWatched 85 = .ok (.getfield 25, 3) := by decide +kernel
theorem dX1_bestWatched_88 : decode cX1_bestWatched 88 = .ok (.iload_n 3, 1) := by decide +kernel
theorem dX1_bestWatched_89 : decode cX1_bestWatched 89 = .ok (.invokevirtual 88, 3) := by decide +kernel
theorem dX1_bestWatched_92 : decode cX1_bestWatched 92 = .ok (.goto 6, 3) := by decide +kernel
theorem dX1_bestWatched_95 : decode cX1_bestWatched 95 = .ok (.lload 4, 2) := by decide +kernel
theorem dX1_bestWatched_97 : decode cX1_bestWatched 97 = .ok (.l2i, 1) := by decide +kernel
theorem dX1_bestWatched_98 : decode cX1_bestWatched 98 = .ok (.ireturn, 1) := by decide +kernel
theorem dX2_init_0 : decode cX2_init 0 = .ok (.aload_n 0, 1) := by decide +kernel
theorem dX2_init_1 : decode cX2_init 1 = .ok (.invokespecial 1, 3) := by decide +kernel
theorem dX2_init_4 : decode cX2_init 4 = .ok (.aload_n 0, 1) := by decide +kernel
theorem dX2_init_5 : decode cX2_init 5 = .ok (.new 7, 3) := by decide +kernel
theorem dX2_init_8 : decode cX2_init 8 = .ok (.dup, 1) := by decide +kernel
theorem dX2_init_9 : decode cX2_init 9 = .ok (.aload_n 1, 1) := by decide +kernel
theorem dX2_init_10 : decode cX2_init 10 = .ok (.invokespecial 9, 3) := by decide +kernel
theorem dX2_init_13 : decode cX2_init 13 = .ok (.putfield 12, 3) := by decide +kernel
theorem dX2_init_16 : decode cX2_init 16 = .ok (.return_, 1) := by decide +kernel
theorem dX3_init_0 : decode cX3_init 0 = .ok (.aload_n 0, 1) := by decide +kernel
theorem dX3_init_1 : decode cX3_init 1 = .ok (.invokespecial 3, 3) := by decide +kernel
theorem dX3_init_4 : decode cX3_init 4 = .ok (.aload_n 0, 1) := by decide +kernel
theorem dX3_init_5 : decode cX3_init 5 = .ok (.bipush 40, 2) := by decide +kernel
theorem dX3_init_7 : decode cX3_init 7 = .ok (.newarray .int, 2) := by decide +kernel
theorem dX3_init_9 : decode cX3_init 9 = .ok (.putfield 9, 3) := by decide +kernel
theorem dX3_init_12 : decode cX3_init 12 = .ok (.aload_n 0, 1) := by decide +kernel
theorem dX3_init_13 : decode cX3_init 13 = .ok (.bipush 40, 2) := by decide +kernel
theorem dX3_init_15 : decode cX3_init 15 = .ok (.newarray .int, 2) := by decide +kernel
theorem dX3_init_17 : decode cX3_init 17 = .ok (.putfield 15, 3) := by decide +kernel
theorem dX3_init_20 : decode cX3_init 20 = .ok (.aload_n 0, 1) := by decide +kernel
theorem dX3_init_21 : decode cX3_init 21 = .ok (.bipush 40, 2) := by decide +kernel
theorem dX3_init_23 : decode cX3_init 23 = .ok (.newarray .int, 2) := by decide +kernel
theorem dX3_init_25 : decode cX3_init 25 = .ok (.putfield 18, 3) := by decide +kernel
theorem dX3_init_28 : decode cX3_init 28 = .ok (.aload_n 0, 1) := by decide +kernel
theorem dX3_init_29 : decode cX3_init 29 = .ok (.bipush 40, 2) := by decide +kernel
theorem dX3_init_31 : decode cX3_init 31 = .ok (.newarray .int, 2) := by decide +kernel
theorem dX3_init_33 : decode cX3_init 33 = .ok (.putfield 21, 3) := by decide +kernel
theorem dX3_init_36 : decode cX3_init 36 = .ok (.aload_n 0, 1) := by decide +kernel
theorem dX3_init_37 : decode cX3_init 37 = .ok (.bipush 40, 2) := by decide +kernel
theorem dX3_init_39 : decode cX3_init 39 = .ok (.newarray .int, 2) := by decide +kernel
theorem dX3_init_41 : decode cX3_init 41 = .ok (.putfield 24, 3) := by decide +kernel
theorem dX3_init_44 : decode cX3_init 44 = .ok (.aload_n 0, 1) := by decide +kernel
theorem dX3_init_45 : decode cX3_init 45 = .ok (.sipush 200, 3) := by decide +kernel
theorem dX3_init_48 : decode cX3_init 48 = .ok (.newarray .int, 2) := by decide +kernel
theorem dX3_init_50 : decode cX3_init 50 = .ok (.putfield 27, 3) := by decide +kernel
theorem dX3_init_53 : decode cX3_init 53 = .ok (.aload_n 0, 1) := by decide +kernel
theorem dX3_init_54 : decode cX3_init 54 = .ok (.bipush 40, 2) := by decide +kernel
theorem dX3_init_56 : decode cX3_init 56 = .ok (.newarray .int, 2) := by decide +kernel
theorem dX3_init_58 : decode cX3_init 58 = .ok (.putfield 30, 3) := by decide +kernel
theorem dX3_init_61 : decode cX3_init 61 = .ok (.aload_n 0, 1) := by decide +kernel
theorem dX3_init_62 : decode cX3_init 62 = .ok (.invokevirtual 33, 3) := by decide +kernel
theorem dX3_init_65 : decode cX3_init 65 = .ok (.return_, 1) := by decide +kernel
theorem dX3_clear_0 : decode cX3_clear 0 = .ok (.aload_n 0, 1) := by decide +kernel
theorem dX3_clear_1 : decode cX3_clear 1 = .ok (.iconst 0, 1) := by decide +kernel
theorem dX3_clear_2 : decode cX3_clear 2 = .ok (.putfield 36, 3) := by decide +kernel
theorem dX3_clear_5 : decode cX3_clear 5 = .ok (.aload_n 0, 1) := by decide +kernel
theorem dX3_clear_6 : decode cX3_clear 6 = .ok (.iconst 0, 1) := by decide +kernel
theorem dX3_clear_7 : decode cX3_clear 7 = .ok (.putfield 40, 3) := by decide +kernel
theorem dX3_clear_10 : decode cX3_clear 10 = .ok (.aload_n 0, 1) := by decide +kernel
theorem dX3_clear_11 : decode cX3_clear 11 = .ok (.iconst 0, 1) := by decide +kernel
theorem dX3_clear_12 : decode cX3_clear 12 = .ok (.putfield 43, 3) := by decide +kernel
theorem dX3_clear_15 : decode cX3_clear 15 = .ok (.aload_n 0, 1) := by decide +kernel
theorem dX3_clear_16 : decode cX3_clear 16 = .ok (.iconst (-1), 1) := by decide +kernel
theorem dX3_clear_17 : decode cX3_clear 17 = .ok (.putfield 46, 3) := by decide +kernel
theorem dX3_clear_20 : decode cX3_clear 20 = .ok (.aload_n 0, 1) := by decide +kernel
theorem dX3_clear_21 : decode cX3_clear 21 = .ok (.iconst 4, 1) := by decide +kernel
theorem dX3_clear_22 : decode cX3_clear 22 = .ok (.putfield 49, 3) := by decide +kernel
theorem dX3_clear_25 : decode cX3_clear 25 = .ok (.aload_n 0, 1) := by decide +kernel
theorem dX3_clear_26 : decode cX3_clear 26 = .ok (.iconst 2, 1) := by decide +kernel
theorem dX3_clear_27 : decode cX3_clear 27 = .ok (.iconst 3, 1) := by decide +kernel
theorem dX3_clear_28 : decode cX3_clear 28 = .ok (.iconst 3, 1) := by decide +kernel
theorem dX3_clear_29 : decode cX3_clear 29 = .ok (.iconst 4, 1) := by decide +kernel
theorem dX3_clear_30 : decode cX3_clear 30 = .ok (.invokevirtual 52, 3) := by decide +kernel
theorem dX3_clear_33 : decode cX3_clear 33 = .ok (.return_, 1) := by decide +kernel
theorem dX3_setLikes_0 : decode cX3_setLikes 0 = .ok (.aload_n 0, 1) := by decide +kernel
theorem dX3_setLikes_1 : decode cX3_setLikes 1 = .ok (.iload_n 1, 1) := by decide +kernel
theorem dX3_setLikes_2 : decode cX3_setLikes 2 = .ok (.putfield 56, 3) := by decide +kernel
theorem dX3_setLikes_5 : decode cX3_setLikes 5 = .ok (.aload_n 0, 1) := by decide +kernel
theorem dX3_setLikes_6 : decode cX3_setLikes 6 = .ok (.iload_n 2, 1) := by decide +kernel
theorem dX3_setLikes_7 : decode cX3_setLikes 7 = .ok (.putfield 59, 3) := by decide +kernel
theorem dX3_setLikes_10 : decode cX3_setLikes 10 = .ok (.aload_n 0, 1) := by decide +kernel
theorem dX3_setLikes_11 : decode cX3_setLikes 11 = .ok (.iload_n 3, 1) := by decide +kernel
theorem dX3_setLikes_12 : decode cX3_setLikes 12 = .ok (.putfield 62, 3) := by decide +kernel
theorem dX3_setLikes_15 : decode cX3_setLikes 15 = .ok (.aload_n 0, 1) := by decide +kernel
theorem dX3_setLikes_16 : decode cX3_setLikes 16 = .ok (.iload 4, 2) := by decide +kernel
theorem dX3_setLikes_18 : decode cX3_setLikes 18 = .ok (.putfield 65, 3) := by decide +kernel
theorem dX3_setLikes_21 : decode cX3_setLikes 21 = .ok (.return_, 1) := by decide +kernel
theorem dX3_layOut_0 : decode cX3_layOut 0 = .ok (.aload_n 0, 1) := by decide +kernel
theorem dX3_layOut_1 : decode cX3_layOut 1 = .ok (.invokevirtual 33, 3) := by decide +kernel
theorem dX3_layOut_4 : decode cX3_layOut 4 = .ok (.iload_n 1, 1) := by decide +kernel
theorem dX3_layOut_5 : decode cX3_layOut 5 = .ok (.iconst 1, 1) := by decide +kernel
theorem dX3_layOut_6 : decode cX3_layOut 6 = .ok (.if_icmp .lt 20, 3) := by decide +kernel
theorem dX3_layOut_9 : decode cX3_layOut 9 = .ok (.iload_n 1, 1) := by decide +kernel
theorem dX3_layOut_10 : decode cX3_layOut 10 = .ok (.bipush 9, 2) := by decide +kernel
theorem dX3_layOut_12 : decode cX3_layOut 12 = .ok (.if_icmp .gt 14, 3) := by decide +kernel
theorem dX3_layOut_15 : decode cX3_layOut 15 = .ok (.iload_n 2, 1) := by decide +kernel
theorem dX3_layOut_16 : decode cX3_layOut 16 = .ok (.iconst 1, 1) := by decide +kernel
theorem dX3_layOut_17 : decode cX3_layOut 17 = .ok (.if_icmp .lt 9, 3) := by decide +kernel
theorem dX3_layOut_20 : decode cX3_layOut 20 = .ok (.iload_n 2, 1) := by decide +kernel
theorem dX3_layOut_21 : decode cX3_layOut 21 = .ok (.bipush 9, 2) := by decide +kernel
theorem dX3_layOut_23 : decode cX3_layOut 23 = .ok (.if_icmp .le 4, 3) := by decide +kernel
theorem dX3_layOut_26 : decode cX3_layOut 26 = .ok (.return_, 1) := by decide +kernel
theorem dX3_layOut_27 : decode cX3_layOut 27 = .ok (.iload_n 1, 1) := by decide +kernel
theorem dX3_layOut_28 : decode cX3_layOut 28 = .ok (.iload_n 2, 1) := by decide +kernel
theorem dX3_layOut_29 : decode cX3_layOut 29 = .ok (.imul, 1) := by decide +kernel
theorem dX3_layOut_30 : decode cX3_layOut 30 = .ok (.bipush 40, 2) := by decide +kernel
theorem dX3_layOut_32 : decode cX3_layOut 32 = .ok (.if_icmp .le 4, 3) := by decide +kernel
theorem dX3_layOut_35 : decode cX3_layOut 35 = .ok (.return_, 1) := by decide +kernel
theorem dX3_layOut_36 : decode cX3_layOut 36 = .ok (.aload_n 0, 1) := by decide +kernel
theorem dX3_layOut_37 : decode cX3_layOut 37 = .ok (.iload_n 1, 1) := by decide +kernel
theorem dX3_layOut_38 : decode cX3_layOut 38 = .ok (.putfield 36, 3) := by decide +kernel
theorem dX3_layOut_41 : decode cX3_layOut 41 = .ok (.aload_n 0, 1) := by decide +kernel
theorem dX3_layOut_42 : decode cX3_layOut 42 = .ok (.iload_n 2, 1) := by decide +kernel
theorem dX3_layOut_43 : decode cX3_layOut 43 = .ok (.putfield 40, 3) := by decide +kernel
theorem dX3_layOut_46 : decode cX3_layOut 46 = .ok (.aload_n 0, 1) := by decide +kernel
theorem dX3_layOut_47 : decode cX3_layOut 47 = .ok (.iload_n 1, 1) := by decide +kernel
theorem dX3_layOut_48 : decode cX3_layOut 48 = .ok (.iload_n 2, 1) := by decide +kernel
theorem dX3_layOut_49 : decode cX3_layOut 49 = .ok (.imul, 1) := by decide +kernel
theorem dX3_layOut_50 : decode cX3_layOut 50 = .ok (.putfield 43, 3) := by decide +kernel
theorem dX3_layOut_53 : decode cX3_layOut 53 = .ok (.aload_n 0, 1) := by decide +kernel
theorem dX3_layOut_54 : decode cX3_layOut 54 = .ok (.iconst 0, 1) := by decide +kernel
theorem dX3_layOut_55 : decode cX3_layOut 55 = .ok (.putfield 46, 3) := by decide +kernel
theorem dX3_layOut_58 : decode cX3_layOut 58 = .ok (.iconst 0, 1) := by decide +kernel
theorem dX3_layOut_59 : decode cX3_layOut 59 = .ok (.istore_n 3, 1) := by decide +kernel
theorem dX3_layOut_60 : decode cX3_layOut 60 = .ok (.iload_n 3, 1) := by decide +kernel
theorem dX3_layOut_61 : decode cX3_layOut 61 = .ok (.aload_n 0, 1) := by decide +kernel
theorem dX3_layOut_62 : decode cX3_layOut 62 = .ok (.getfield 40, 3) := by decide +kernel
theorem dX3_layOut_65 : decode cX3_layOut 65 = .ok (.if_icmp .ge 34, 3) := by decide +kernel
theorem dX3_layOut_68 : decode cX3_layOut 68 = .ok (.iconst 0, 1) := by decide +kernel
theorem dX3_layOut_69 : decode cX3_layOut 69 = .ok (.istore 4, 2) := by decide +kernel
theorem dX3_layOut_71 : decode cX3_layOut 71 = .ok (.iload 4, 2) := by decide +kernel
theorem dX3_layOut_73 : decode cX3_layOut 73 = .ok (.aload_n 0, 1) := by decide +kernel
theorem dX3_layOut_74 : decode cX3_layOut 74 = .ok (.getfield 36, 3) := by decide +kernel
theorem dX3_layOut_77 : decode cX3_layOut 77 = .ok (.if_icmp .ge 16, 3) := by decide +kernel
theorem dX3_layOut_80 : decode cX3_layOut 80 = .ok (.aload_n 0, 1) := by decide +kernel
theorem dX3_layOut_81 : decode cX3_layOut 81 = .ok (.iload 4, 2) := by decide +kernel
theorem dX3_layOut_83 : decode cX3_layOut 83 = .ok (.iload_n 3, 1) := by decide +kernel
theorem dX3_layOut_84 : decode cX3_layOut 84 = .ok (.invokevirtual 68, 3) := by decide +kernel
theorem dX3_layOut_87 : decode cX3_layOut 87 = .ok (.iinc 4 1, 3) := by decide +kernel
theorem dX3_layOut_90 : decode cX3_layOut 90 = .ok (.goto (-19), 3) := by decide +kernel
theorem dX3_layOut_93 : decode cX3_layOut 93 = .ok (.iinc 3 1, 3) := by decide +kernel
theorem dX3_layOut_96 : decode cX3_layOut 96 = .ok (.goto (-36), 3) := by decide +kernel
theorem dX3_layOut_99 : decode cX3_layOut 99 = .ok (.return_, 1) := by decide +kernel
theorem dX3_layCell_0 : decode cX3_layCell 0 = .ok (.aload_n 0, 1) := by decide +kernel
theorem dX3_layCell_1 : decode cX3_layCell 1 = .ok (.iload_n 1, 1) := by decide +kernel
theorem dX3_layCell_2 : decode cX3_layCell 2 = .ok (.iload_n 2, 1) := by decide +kernel
theorem dX3_layCell_3 : decode cX3_layCell 3 = .ok (.invokevirtual 72, 3) := by decide +kernel
theorem dX3_layCell_6 : decode cX3_layCell 6 = .ok (.istore_n 3, 1) := by decide +kernel
theorem dX3_layCell_7 : decode cX3_layCell 7 = .ok (.aload_n 0, 1) := by decide +kernel
theorem dX3_layCell_8 : decode cX3_layCell 8 = .ok (.iload_n 3, 1) := by decide +kernel
theorem dX3_layCell_9 : decode cX3_layCell 9 = .ok (.invokevirtual 76, 3) := by decide +kernel
theorem dX3_layCell_12 : decode cX3_layCell 12 = .ok (.ifCond .ne 4, 3) := by decide +kernel
theorem dX3_layCell_15 : decode cX3_layCell 15 = .ok (.return_, 1) := by decide +kernel
theorem dX3_layCell_16 : decode cX3_layCell 16 = .ok (.aload_n 0, 1) := by decide +kernel
theorem dX3_layCell_17 : decode cX3_layCell 17 = .ok (.getfield 9, 3) := by decide +kernel
theorem dX3_layCell_20 : decode cX3_layCell 20 = .ok (.iload_n 3, 1) := by decide +kernel
theorem dX3_layCell_21 : decode cX3_layCell 21 = .ok (.iload_n 1, 1) := by decide +kernel
theorem dX3_layCell_22 : decode cX3_layCell 22 = .ok (.iastore, 1) := by decide +kernel
theorem dX3_layCell_23 : decode cX3_layCell 23 = .ok (.aload_n 0, 1) := by decide +kernel
theorem dX3_layCell_24 : decode cX3_layCell 24 = .ok (.getfield 15, 3) := by decide +kernel
theorem dX3_layCell_27 : decode cX3_layCell 27 = .ok (.iload_n 3, 1) := by decide +kernel
theorem dX3_layCell_28 : decode cX3_layCell 28 = .ok (.iload_n 2, 1) := by decide +kernel
theorem dX3_layCell_29 : decode cX3_layCell 29 = .ok (.iastore, 1) := by decide +kernel
theorem dX3_layCell_30 : decode cX3_layCell 30 = .ok (.aload_n 0, 1) := by decide +kernel
theorem dX3_layCell_31 : decode cX3_layCell 31 = .ok (.getfield 18, 3) := by decide +kernel
theorem dX3_layCell_34 : decode cX3_layCell 34 = .ok (.iload_n 3, 1) := by decide +kernel
theorem dX3_layCell_35 : decode cX3_layCell 35 = .ok (.iconst 1, 1) := by decide +kernel
theorem dX3_layCell_36 : decode cX3_layCell 36 = .ok (.iastore, 1) := by decide +kernel
theorem dX3_layCell_37 : decode cX3_layCell 37 = .ok (.aload_n 0, 1) := by decide +kernel
theorem dX3_layCell_38 : decode cX3_layCell 38 = .ok (.getfield 21, 3) := by decide +kernel
theorem dX3_layCell_41 : decode cX3_layCell 41 = .ok (.iload_n 3, 1) := by decide +kernel
theorem dX3_layCell_42 : decode cX3_layCell 42 = .ok (.iconst 0, 1) := by decide +kernel
theorem dX3_layCell_43 : decode cX3_layCell 43 = .ok (.iastore, 1) := by decide +kernel
theorem dX3_layCell_44 : decode cX3_layCell 44 = .ok (.aload_n 0, 1) := by decide +kernel
theorem dX3_layCell_45 : decode cX3_layCell 45 = .ok (.getfield 24, 3) := by decide +kernel
theorem dX3_layCell_48 : decode cX3_layCell 48 = .ok (.iload_n 3, 1) := by decide +kernel
theorem dX3_layCell_49 : decode cX3_layCell 49 = .ok (.iconst 1, 1) := by decide +kernel
theorem dX3_layCell_50 : decode cX3_layCell 50 = .ok (.iastore, 1) := by decide +kernel
theorem dX3_layCell_51 : decode cX3_layCell 51 = .ok (.aload_n 0, 1) := by decide +kernel
theorem dX3_layCell_52 : decode cX3_layCell 52 = .ok (.getfield 30, 3) := by decide +kernel
theorem dX3_layCell_55 : decode cX3_layCell 55 = .ok (.iload_n 3, 1) := by decide +kernel
theorem dX3_layCell_56 : decode cX3_layCell 56 = .ok (.iconst 0, 1) := by decide +kernel
theorem dX3_layCell_57 : decode cX3_layCell 57 = .ok (.iastore, 1) := by decide +kernel
theorem dX3_layCell_58 : decode cX3_layCell 58 = .ok (.aload_n 0, 1) := by decide +kernel
theorem dX3_layCell_59 : decode cX3_layCell 59 = .ok (.iload_n 3, 1) := by decide +kernel
theorem dX3_layCell_60 : decode cX3_layCell 60 = .ok (.iload_n 1, 1) := by decide +kernel
theorem dX3_layCell_61 : decode cX3_layCell 61 = .ok (.iload_n 2, 1) := by decide +kernel
theorem dX3_layCell_62 : decode cX3_layCell 62 = .ok (.invokevirtual 80, 3) := by decide +kernel
theorem dX3_layCell_65 : decode cX3_layCell 65 = .ok (.aload_n 0, 1) := by decide +kernel
theorem dX3_layCell_66 : decode cX3_layCell 66 = .ok (.iload_n 3, 1) := by decide +kernel
theorem dX3_layCell_67 : decode cX3_layCell 67 = .ok (.iload_n 1, 1) := by decide +kernel
theorem dX3_layCell_68 : decode cX3_layCell 68 = .ok (.iload_n 2, 1) := by decide +kernel
theorem dX3_layCell_69 : decode cX3_layCell 69 = .ok (.iconst 1, 1) := by decide +kernel
theorem dX3_layCell_70 : decode cX3_layCell 70 = .ok (.isub, 1) := by decide +kernel
theorem dX3_layCell_71 : decode cX3_layCell 71 = .ok (.invokevirtual 80, 3) := by decide +kernel
theorem dX3_layCell_74 : decode cX3_layCell 74 = .ok (.aload_n 0, 1) := by decide +kernel
theorem dX3_layCell_75 : decode cX3_layCell 75 = .ok (.iload_n 3, 1) := by decide +kernel
theorem dX3_layCell_76 : decode cX3_layCell 76 = .ok (.iload_n 1, 1) := by decide +kernel
theorem dX3_layCell_77 : decode cX3_layCell 77 = .ok (.iconst 1, 1) := by decide +kernel
theorem dX3_layCell_78 : decode cX3_layCell 78 = .ok (.iadd, 1) := by decide +kernel
theorem dX3_layCell_79 : decode cX3_layCell 79 = .ok (.iload_n 2, 1) := by decide +kernel
theorem dX3_layCell_80 : decode cX3_layCell 80 = .ok (.invokevirtual 80, 3) := by decide +kernel
theorem dX3_layCell_83 : decode cX3_layCell 83 = .ok (.aload_n 0, 1) := by decide +kernel
theorem dX3_layCell_84 : decode cX3_layCell 84 = .ok (.iload_n 3, 1) := by decide +kernel
theorem dX3_layCell_85 : decode cX3_layCell 85 = .ok (.iload_n 1, 1) := by decide +kernel
theorem dX3_layCell_86 : decode cX3_layCell 86 = .ok (.iload_n 2, 1) := by decide +kernel
theorem dX3_layCell_87 : decode cX3_layCell 87 = .ok (.iconst 1, 1) := by decide +kernel
theorem dX3_layCell_88 : decode cX3_layCell 88 = .ok (.iadd, 1) := by decide +kernel
theorem dX3_layCell_89 : decode cX3_layCell 89 = .ok (.invokevirtual 80, 3) := by decide +kernel
theorem dX3_layCell_92 : decode cX3_layCell 92 = .ok (.aload_n 0, 1) := by decide +kernel
theorem dX3_layCell_93 : decode cX3_layCell 93 = .ok (.iload_n 3, 1) := by decide +kernel
theorem dX3_layCell_94 : decode cX3_layCell 94 = .ok (.iload_n 1, 1) := by decide +kernel
theorem dX3_layCell_95 : decode cX3_layCell 95 = .ok (.iconst 1, 1) := by decide +kernel
theorem dX3_layCell_96 : decode cX3_layCell 96 = .ok (.isub, 1) := by decide +kernel
theorem dX3_layCell_97 : decode cX3_layCell 97 = .ok (.iload_n 2, 1) := by decide +kernel
theorem dX3_layCell_98 : decode cX3_layCell 98 = .ok (.invokevirtual 80, 3) := by decide +kernel
theorem dX3_layCell_101 : decode cX3_layCell 101 = .ok (.return_, 1) := by decide +kernel
theorem dX3_addWay_0 : decode cX3_addWay 0 = .ok (.aload_n 0, 1) := by decide +kernel
theorem dX3_addWay_1 : decode cX3_addWay 1 = .ok (.iload_n 2, 1) := by decide +kernel
theorem dX3_addWay_2 : decode cX3_addWay 2 = .ok (.iload_n 3, 1) := by decide +kernel
theorem dX3_addWay_3 : decode cX3_addWay 3 = .ok (.invokevirtual 72, 3) := by decide +kernel
theorem dX3_addWay_6 : decode cX3_addWay 6 = .ok (.istore 4, 2) := by decide +kernel
theorem dX3_addWay_8 : decode cX3_addWay 8 = .ok (.aload_n 0, 1) := by decide +kernel
theorem dX3_addWay_9 : decode cX3_addWay 9 = .ok (.iload 4, 2) := by decide +kernel
theorem dX3_addWay_11 : decode cX3_addWay 11 = .ok (.invokevirtual 76, 3) := by decide +kernel
theorem dX3_addWay_14 : decode cX3_addWay 14 = .ok (.ifCond .eq 13, 3) := by decide +kernel
theorem dX3_addWay_17 : decode cX3_addWay 17 = .ok (.aload_n 0, 1) := by decide +kernel
theorem dX3_addWay_18 : decode cX3_addWay 18 = .ok (.getfield 30, 3) := by decide +kernel
theorem dX3_addWay_21 : decode cX3_addWay 21 = .ok (.iload_n 1, 1) := by decide +kernel
theorem dX3_addWay_22 : decode cX3_addWay 22 = .ok (.iaload, 1) := by decide +kernel
theorem dX3_addWay_23 : decode cX3_addWay 23 = .ok (.iconst 5, 1) := by decide +kernel
theorem dX3_addWay_24 : decode cX3_addWay 24 = .ok (.if_icmp .lt 4, 3) := by decide +kernel
theorem dX3_addWay_27 : decode cX3_addWay 27 = .ok (.return_, 1) := by decide +kernel
theorem dX3_addWay_28 : decode cX3_addWay 28 = .ok (.aload_n 0, 1) := by decide +kernel
theorem dX3_addWay_29 : decode cX3_addWay 29 = .ok (.getfield 27, 3) := by decide +kernel
theorem dX3_addWay_32 : decode cX3_addWay 32 = .ok (.iload_n 1, 1) := by decide +kernel
theorem dX3_addWay_33 : decode cX3_addWay 33 = .ok (.iconst 5, 1) := by decide +kernel
theorem dX3_addWay_34 : decode cX3_addWay 34 = .ok (.imul, 1) := by decide +kernel
theorem dX3_addWay_35 : decode cX3_addWay 35 = .ok (.aload_n 0, 1) := by decide +kernel
theorem dX3_addWay_36 : decode cX3_addWay 36 = .ok (.getfield 30, 3) := by decide +kernel
theorem dX3_addWay_39 : decode cX3_addWay 39 = .ok (.iload_n 1, 1) := by decide +kernel
theorem dX3_addWay_40 : decode cX3_addWay 40 = .ok (.iaload, 1) := by decide +kernel
theorem dX3_addWay_41 : decode cX3_addWay 41 = .ok (.iadd, 1) := by decide +kernel
theorem dX3_addWay_42 : decode cX3_addWay 42 = .ok (.iload 4, 2) := by decide +kernel
theorem dX3_addWay_44 : decode cX3_addWay 44 = .ok (.iastore, 1) := by decide +kernel
theorem dX3_addWay_45 : decode cX3_addWay 45 = .ok (.aload_n 0, 1) := by decide +kernel
theorem dX3_addWay_46 : decode cX3_addWay 46 = .ok (.getfield 30, 3) := by decide +kernel
theorem dX3_addWay_49 : decode cX3_addWay 49 = .ok (.iload_n 1, 1) := by decide +kernel
theorem dX3_addWay_50 : decode cX3_addWay 50 = .ok (.dup2, 1) := by decide +kernel
theorem dX3_addWay_51 : decode cX3_addWay 51 = .ok (.iaload, 1) := by decide +kernel
theorem dX3_addWay_52 : decode cX3_addWay 52 = .ok (.iconst 1, 1) := by decide +kernel
theorem dX3_addWay_53 : decode cX3_addWay 53 = .ok (.iadd, 1) := by decide +kernel
theorem dX3_addWay_54 : decode cX3_addWay 54 = .ok (.iastore, 1) := by decide +kernel
theorem dX3_addWay_55 : decode cX3_addWay 55 = .ok (.return_, 1) := by decide +kernel
theorem dX3_takeFrom_0 : decode cX3_takeFrom 0 = .ok (.aload_n 0, 1) := by decide +kernel
theorem dX3_takeFrom_1 : decode cX3_takeFrom 1 = .ok (.aload_n 1, 1) := by decide +kernel
theorem dX3_takeFrom_2 : decode cX3_takeFrom 2 = .ok (.getfield 36, 3) := by decide +kernel
theorem dX3_takeFrom_5 : decode cX3_takeFrom 5 = .ok (.putfield 36, 3) := by decide +kernel
theorem dX3_takeFrom_8 : decode cX3_takeFrom 8 = .ok (.aload_n 0, 1) := by decide +kernel
theorem dX3_takeFrom_9 : decode cX3_takeFrom 9 = .ok (.aload_n 1, 1) := by decide +kernel
theorem dX3_takeFrom_10 : decode cX3_takeFrom 10 = .ok (.getfield 40, 3) := by decide +kernel
theorem dX3_takeFrom_13 : decode cX3_takeFrom 13 = .ok (.putfield 40, 3) := by decide +kernel
theorem dX3_takeFrom_16 : decode cX3_takeFrom 16 = .ok (.aload_n 0, 1) := by decide +kernel
theorem dX3_takeFrom_17 : decode cX3_takeFrom 17 = .ok (.aload_n 1, 1) := by decide +kernel
theorem dX3_takeFrom_18 : decode cX3_takeFrom 18 = .ok (.getfield 43, 3) := by decide +kernel
theorem dX3_takeFrom_21 : decode cX3_takeFrom 21 = .ok (.putfield 43, 3) := by decide +kernel
theorem dX3_takeFrom_24 : decode cX3_takeFrom 24 = .ok (.aload_n 0, 1) := by decide +kernel
theorem dX3_takeFrom_25 : decode cX3_takeFrom 25 = .ok (.aload_n 1, 1) := by decide +kernel
theorem dX3_takeFrom_26 : decode cX3_takeFrom 26 = .ok (.getfield 46, 3) := by decide +kernel
theorem dX3_takeFrom_29 : decode cX3_takeFrom 29 = .ok (.putfield 46, 3) := by decide +kernel
theorem dX3_takeFrom_32 : decode cX3_takeFrom 32 = .ok (.aload_n 0, 1) := by decide +kernel
theorem dX3_takeFrom_33 : decode cX3_takeFrom 33 = .ok (.aload_n 1, 1) := by decide +kernel
theorem dX3_takeFrom_34 : decode cX3_takeFrom 34 = .ok (.getfield 49, 3) := by decide +kernel
theorem dX3_takeFrom_37 : decode cX3_takeFrom 37 = .ok (.putfield 49, 3) := by decide +kernel
theorem dX3_takeFrom_40 : decode cX3_takeFrom 40 = .ok (.aload_n 0, 1) := by decide +kernel
theorem dX3_takeFrom_41 : decode cX3_takeFrom 41 = .ok (.aload_n 1, 1) := by decide +kernel
theorem dX3_takeFrom_42 : decode cX3_takeFrom 42 = .ok (.getfield 56, 3) := by decide +kernel
theorem dX3_takeFrom_45 : decode cX3_takeFrom 45 = .ok (.aload_n 1, 1) := by decide +kernel
theorem dX3_takeFrom_46 : decode cX3_takeFrom 46 = .ok (.getfield 59, 3) := by decide +kernel
theorem dX3_takeFrom_49 : decode cX3_takeFrom 49 = .ok (.aload_n 1, 1) := by decide +kernel
theorem dX3_takeFrom_50 : decode cX3_takeFrom 50 = .ok (.getfield 62, 3) := by decide +kernel
theorem dX3_takeFrom_53 : decode cX3_takeFrom 53 = .ok (.aload_n 1, 1) := by decide +kernel
theorem dX3_takeFrom_54 : decode cX3_takeFrom 54 = .ok (.getfield 65, 3) := by decide +kernel
theorem dX3_takeFrom_57 : decode cX3_takeFrom 57 = .ok (.invokevirtual 52, 3) := by decide +kernel
theorem dX3_takeFrom_60 : decode cX3_takeFrom 60 = .ok (.iconst 0, 1) := by decide +kernel
theorem dX3_takeFrom_61 : decode cX3_takeFrom 61 = .ok (.istore_n 2, 1) := by decide +kernel
theorem dX3_takeFrom_62 : decode cX3_takeFrom 62 = .ok (.iload_n 2, 1) := by decide +kernel
theorem dX3_takeFrom_63 : decode cX3_takeFrom 63 = .ok (.bipush 40, 2) := by decide +kernel
theorem dX3_takeFrom_65 : decode cX3_takeFrom 65 = .ok (.if_icmp .ge 81, 3) := by decide +kernel
theorem dX3_takeFrom_68 : decode cX3_takeFrom 68 = .ok (.aload_n 0, 1) := by decide +kernel
theorem dX3_takeFrom_69 : decode cX3_takeFrom 69 = .ok (.getfield 9, 3) := by decide +kernel
theorem dX3_takeFrom_72 : decode cX3_takeFrom 72 = .ok (.iload_n 2, 1) := by decide +kernel
theorem dX3_takeFrom_73 : decode cX3_takeFrom 73 = .ok (.aload_n 1, 1) := by decide +kernel
theorem dX3_takeFrom_74 : decode cX3_takeFrom 74 = .ok (.getfield 9, 3) := by decide +kernel
theorem dX3_takeFrom_77 : decode cX3_takeFrom 77 = .ok (.iload_n 2, 1) := by decide +kernel
theorem dX3_takeFrom_78 : decode cX3_takeFrom 78 = .ok (.iaload, 1) := by decide +kernel
theorem dX3_takeFrom_79 : decode cX3_takeFrom 79 = .ok (.iastore, 1) := by decide +kernel
theorem dX3_takeFrom_80 : decode cX3_takeFrom 80 = .ok (.aload_n 0, 1) := by decide +kernel
theorem dX3_takeFrom_81 : decode cX3_takeFrom 81 = .ok (.getfield 15, 3) := by decide +kernel
theorem dX3_takeFrom_84 : decode cX3_takeFrom 84 = .ok (.iload_n 2, 1) := by decide +kernel
theorem dX3_takeFrom_85 : decode cX3_takeFrom 85 = .ok (.aload_n 1, 1) := by decide +kernel
theorem dX3_takeFrom_86 : decode cX3_takeFrom 86 = .ok (.getfield 15, 3) := by decide +kernel
theorem dX3_takeFrom_89 : decode cX3_takeFrom 89 = .ok (.iload_n 2, 1) := by decide +kernel
theorem dX3_takeFrom_90 : decode cX3_takeFrom 90 = .ok (.iaload, 1) := by decide +kernel
theorem dX3_takeFrom_91 : decode cX3_takeFrom 91 = .ok (.iastore, 1) := by decide +kernel
theorem dX3_takeFrom_92 : decode cX3_takeFrom 92 = .ok (.aload_n 0, 1) := by decide +kernel
theorem dX3_takeFrom_93 : decode cX3_takeFrom 93 = .ok (.getfield 18, 3) := by decide +kernel
theorem dX3_takeFrom_96 : decode cX3_takeFrom 96 = .ok (.iload_n 2, 1) := by decide +kernel
theorem dX3_takeFrom_97 : decode cX3_takeFrom 97 = .ok (.aload_n 1, 1) := by decide +kernel
theorem dX3_takeFrom_98 : decode cX3_takeFrom 98 = .ok (.getfield 18, 3) := by decide +kernel
theorem dX3_takeFrom_101 : decode cX3_takeFrom 101 = .ok (.iload_n 2, 1) := by decide +kernel
theorem dX3_takeFrom_102 : decode cX3_takeFrom 102 = .ok (.iaload, 1) := by decide +kernel
theorem dX3_takeFrom_103 : decode cX3_takeFrom 103 = .ok (.iastore, 1) := by decide +kernel
theorem dX3_takeFrom_104 : decode cX3_takeFrom 104 = .ok (.aload_n 0, 1) := by decide +kernel
theorem dX3_takeFrom_105 : decode cX3_takeFrom 105 = .ok (.getfield 21, 3) := by decide +kernel
theorem dX3_takeFrom_108 : decode cX3_takeFrom 108 = .ok (.iload_n 2, 1) := by decide +kernel
theorem dX3_takeFrom_109 : decode cX3_takeFrom 109 = .ok (.aload_n 1, 1) := by decide +kernel
theorem dX3_takeFrom_110 : decode cX3_takeFrom 110 = .ok (.getfield 21, 3) := by decide +kernel
theorem dX3_takeFrom_113 : decode cX3_takeFrom 113 = .ok (.iload_n 2, 1) := by decide +kernel
theorem dX3_takeFrom_114 : decode cX3_takeFrom 114 = .ok (.iaload, 1) := by decide +kernel
theorem dX3_takeFrom_115 : decode cX3_takeFrom 115 = .ok (.iastore, 1) := by decide +kernel
theorem dX3_takeFrom_116 : decode cX3_takeFrom 116 = .ok (.aload_n 0, 1) := by decide +kernel
theorem dX3_takeFrom_117 : decode cX3_takeFrom 117 = .ok (.getfield 24, 3) := by decide +kernel
theorem dX3_takeFrom_120 : decode cX3_takeFrom 120 = .ok (.iload_n 2, 1) := by decide +kernel
theorem dX3_takeFrom_121 : decode cX3_takeFrom 121 = .ok (.aload_n 1, 1) := by decide +kernel
theorem dX3_takeFrom_122 : decode cX3_takeFrom 122 = .ok (.getfield 24, 3) := by decide +kernel
theorem dX3_takeFrom_125 : decode cX3_takeFrom 125 = .ok (.iload_n 2, 1) := by decide +kernel
theorem dX3_takeFrom_126 : decode cX3_takeFrom 126 = .ok (.iaload, 1) := by decide +kernel
theorem dX3_takeFrom_127 : decode cX3_takeFrom 127 = .ok (.iastore, 1) := by decide +kernel
theorem dX3_takeFrom_128 : decode cX3_takeFrom 128 = .ok (.aload_n 0, 1) := by decide +kernel
theorem dX3_takeFrom_129 : decode cX3_takeFrom 129 = .ok (.getfield 30, 3) := by decide +kernel
theorem dX3_takeFrom_132 : decode cX3_takeFrom 132 = .ok (.iload_n 2, 1) := by decide +kernel
theorem dX3_takeFrom_133 : decode cX3_takeFrom 133 = .ok (.aload_n 1, 1) := by decide +kernel
theorem dX3_takeFrom_134 : decode cX3_takeFrom 134 = .ok (.getfield 30, 3) := by decide +kernel
theorem dX3_takeFrom_137 : decode cX3_takeFrom 137 = .ok (.iload_n 2, 1) := by decide +kernel
theorem dX3_takeFrom_138 : decode cX3_takeFrom 138 = .ok (.iaload, 1) := by decide +kernel
theorem dX3_takeFrom_139 : decode cX3_takeFrom 139 = .ok (.iastore, 1) := by decide +kernel
theorem dX3_takeFrom_140 : decode cX3_takeFrom 140 = .ok (.iinc 2 1, 3) := by decide +kernel
theorem dX3_takeFrom_143 : decode cX3_takeFrom 143 = .ok (.goto (-81), 3) := by decide +kernel
theorem dX3_takeFrom_146 : decode cX3_takeFrom 146 = .ok (.iconst 0, 1) := by decide +kernel
theorem dX3_takeFrom_147 : decode cX3_takeFrom 147 = .ok (.istore_n 2, 1) := by decide +kernel
theorem dX3_takeFrom_148 : decode cX3_takeFrom 148 = .ok (.iload_n 2, 1) := by decide +kernel
theorem dX3_takeFrom_149 : decode cX3_takeFrom 149 = .ok (.sipush 200, 3) := by decide +kernel
theorem dX3_takeFrom_152 : decode cX3_takeFrom 152 = .ok (.if_icmp .ge 21, 3) := by decide +kernel
theorem dX3_takeFrom_155 : decode cX3_takeFrom 155 = .ok (.aload_n 0, 1) := by decide +kernel
theorem dX3_takeFrom_156 : decode cX3_takeFrom 156 = .ok (.getfield 27, 3) := by decide +kernel
theorem dX3_takeFrom_159 : decode cX3_takeFrom 159 = .ok (.iload_n 2, 1) := by decide +kernel
theorem dX3_takeFrom_160 : decode cX3_takeFrom 160 = .ok (.aload_n 1, 1) := by decide +kernel
theorem dX3_takeFrom_161 : decode cX3_takeFrom 161 = .ok (.getfield 27, 3) := by decide +kernel
theorem dX3_takeFrom_164 : decode cX3_takeFrom 164 = .ok (.iload_n 2, 1) := by decide +kernel
theorem dX3_takeFrom_165 : decode cX3_takeFrom 165 = .ok (.iaload, 1) := by decide +kernel
theorem dX3_takeFrom_166 : decode cX3_takeFrom 166 = .ok (.iastore, 1) := by decide +kernel
theorem dX3_takeFrom_167 : decode cX3_takeFrom 167 = .ok (.iinc 2 1, 3) := by decide +kernel
theorem dX3_takeFrom_170 : decode cX3_takeFrom 170 = .ok (.goto (-22), 3) := by decide +kernel
theorem dX3_takeFrom_173 : decode cX3_takeFrom 173 = .ok (.return_, 1) := by decide +kernel
theorem dX3_has_0 : decode cX3_has 0 = .ok (.iload_n 1, 1) := by decide +kernel
theorem dX3_has_1 : decode cX3_has 1 = .ok (.ifCond .lt 21, 3) := by decide +kernel
theorem dX3_has_4 : decode cX3_has 4 = .ok (.iload_n 1, 1) := by decide +kernel
theorem dX3_has_5 : decode cX3_has 5 = .ok (.aload_n 0, 1) := by decide +kernel
theorem dX3_has_6 : decode cX3_has 6 = .ok (.getfield 43, 3) := by decide +kernel
theorem dX3_has_9 : decode cX3_has 9 = .ok (.if_icmp .ge 13, 3) := by decide +kernel
theorem dX3_has_12 : decode cX3_has 12 = .ok (.iload_n 1, 1) := by decide +kernel
theorem dX3_has_13 : decode cX3_has 13 = .ok (.bipush 40, 2) := by decide +kernel
theorem dX3_has_15 : decode cX3_has 15 = .ok (.if_icmp .ge 7, 3) := by decide +kernel
theorem dX3_has_18 : decode cX3_has 18 = .ok (.iconst 1, 1) := by decide +kernel
theorem dX3_has_19 : decode cX3_has 19 = .ok (.goto 4, 3) := by decide +kernel
theorem dX3_has_22 : decode cX3_has 22 = .ok (.iconst 0, 1) := by decide +kernel
theorem dX3_has_23 : decode cX3_has 23 = .ok (.ireturn, 1) := by decide +kernel
theorem dX3_cellAt_0 : decode cX3_cellAt 0 = .ok (.iload_n 1, 1) := by decide +kernel
theorem dX3_cellAt_1 : decode cX3_cellAt 1 = .ok (.ifCond .lt 23, 3) := by decide +kernel
theorem dX3_cellAt_4 : decode cX3_cellAt 4 = .ok (.iload_n 1, 1) := by decide +kernel
theorem dX3_cellAt_5 : decode cX3_cellAt 5 = .ok (.aload_n 0, 1) := by decide +kernel
theorem dX3_cellAt_6 : decode cX3_cellAt 6 = .ok (.getfield 36, 3) := by decide +kernel
theorem dX3_cellAt_9 : decode cX3_cellAt 9 = .ok (.if_icmp .ge 15, 3) := by decide +kernel
theorem dX3_cellAt_12 : decode cX3_cellAt 12 = .ok (.iload_n 2, 1) := by decide +kernel
theorem dX3_cellAt_13 : decode cX3_cellAt 13 = .ok (.ifCond .lt 11, 3) := by decide +kernel
theorem dX3_cellAt_16 : decode cX3_cellAt 16 = .ok (.iload_n 2, 1) := by decide +kernel
theorem dX3_cellAt_17 : decode cX3_cellAt 17 = .ok (.aload_n 0, 1) := by decide +kernel
theorem dX3_cellAt_18 : decode cX3_cellAt 18 = .ok (.getfield 40, 3) := by decide +kernel
theorem dX3_cellAt_21 : decode cX3_cellAt 21 = .ok (.if_icmp .lt 5, 3) := by decide +kernel
theorem dX3_cellAt_24 : decode cX3_cellAt 24 = .ok (.iconst (-1), 1) := by decide +kernel
theorem dX3_cellAt_25 : decode cX3_cellAt 25 = .ok (.ireturn, 1) := by decide +kernel
theorem dX3_cellAt_26 : decode cX3_cellAt 26 = .ok (.iload_n 2, 1) := by decide +kernel
theorem dX3_cellAt_27 : decode cX3_cellAt 27 = .ok (.aload_n 0, 1) := by decide +kernel
theorem dX3_cellAt_28 : decode cX3_cellAt 28 = .ok (.getfield 36, 3) := by decide +kernel
theorem dX3_cellAt_31 : decode cX3_cellAt 31 = .ok (.imul, 1) := by decide +kernel
theorem dX3_cellAt_32 : decode cX3_cellAt 32 = .ok (.iload_n 1, 1) := by decide +kernel
theorem dX3_cellAt_33 : decode cX3_cellAt 33 = .ok (.iadd, 1) := by decide +kernel
theorem dX3_cellAt_34 : decode cX3_cellAt 34 = .ok (.ireturn, 1) := by decide +kernel
theorem dX3_placeOf_0 : decode cX3_placeOf 0 = .ok (.aload_n 0, 1) := by decide +kernel
theorem dX3_placeOf_1 : decode cX3_placeOf 1 = .ok (.iload_n 1, 1) := by decide +kernel
theorem dX3_placeOf_2 : decode cX3_placeOf 2 = .ok (.invokevirtual 76, 3) := by decide +kernel
theorem dX3_placeOf_5 : decode cX3_placeOf 5 = .ok (.ifCond .eq 22, 3) := by decide +kernel
theorem dX3_placeOf_8 : decode cX3_placeOf 8 = .ok (.bipush 10, 2) := by decide +kernel
theorem dX3_placeOf_10 : decode cX3_placeOf 10 = .ok (.aload_n 0, 1) := by decide +kernel
theorem dX3_placeOf_11 : decode cX3_placeOf 11 = .ok (.getfield 9, 3) := by decide +kernel
theorem dX3_placeOf_14 : decode cX3_placeOf 14 = .ok (.iload_n 1, 1) := by decide +kernel
theorem dX3_placeOf_15 : decode cX3_placeOf 15 = .ok (.iaload, 1) := by decide +kernel
theorem dX3_placeOf_16 : decode cX3_placeOf 16 = .ok (.imul, 1) := by decide +kernel
theorem dX3_placeOf_17 : decode cX3_placeOf 17 = .ok (.aload_n 0, 1) := by decide +kernel
theorem dX3_placeOf_18 : decode cX3_placeOf 18 = .ok (.getfield 15, 3) := by decide +kernel
theorem dX3_placeOf_21 : decode cX3_placeOf 21 = .ok (.iload_n 1, 1) := by decide +kernel
theorem dX3_placeOf_22 : decode cX3_placeOf 22 = .ok (.iaload, 1) := by decide +kernel
theorem dX3_placeOf_23 : decode cX3_placeOf 23 = .ok (.iadd, 1) := by decide +kernel
theorem dX3_placeOf_24 : decode cX3_placeOf 24 = .ok (.goto 4, 3) := by decide +kernel
theorem dX3_placeOf_27 : decode cX3_placeOf 27 = .ok (.iconst (-1), 1) := by decide +kernel
theorem dX3_placeOf_28 : decode cX3_placeOf 28 = .ok (.ireturn, 1) := by decide +kernel
theorem dX3_wayFrom_0 : decode cX3_wayFrom 0 = .ok (.iload_n 1, 1) := by decide +kernel
theorem dX3_wayFrom_1 : decode cX3_wayFrom 1 = .ok (.ifCond .lt 17, 3) := by decide +kernel
theorem dX3_wayFrom_4 : decode cX3_wayFrom 4 = .ok (.iload_n 1, 1) := by decide +kernel
theorem dX3_wayFrom_5 : decode cX3_wayFrom 5 = .ok (.aload_n 0, 1) := by decide +kernel
theorem dX3_wayFrom_6 : decode cX3_wayFrom 6 = .ok (.getfield 43, 3) := by decide +kernel
theorem dX3_wayFrom_9 : decode cX3_wayFrom 9 = .ok (.if_icmp .ge 9, 3) := by decide +kernel
theorem dX3_wayFrom_12 : decode cX3_wayFrom 12 = .ok (.iload_n 1, 1) := by decide +kernel
theorem dX3_wayFrom_13 : decode cX3_wayFrom 13 = .ok (.bipush 40, 2) := by decide +kernel
theorem dX3_wayFrom_15 : decode cX3_wayFrom 15 = .ok (.if_icmp .lt 5, 3) := by decide +kernel
theorem dX3_wayFrom_18 : decode cX3_wayFrom 18 = .ok (.iconst (-1), 1) := by decide +kernel
theorem dX3_wayFrom_19 : decode cX3_wayFrom 19 = .ok (.ireturn, 1) := by decide +kernel
theorem dX3_wayFrom_20 : decode cX3_wayFrom 20 = .ok (.iload_n 2, 1) := by decide +kernel
theorem dX3_wayFrom_21 : decode cX3_wayFrom 21 = .ok (.ifCond .lt 18, 3) := by decide +kernel
theorem dX3_wayFrom_24 : decode cX3_wayFrom 24 = .ok (.iload_n 2, 1) := by decide +kernel
theorem dX3_wayFrom_25 : decode cX3_wayFrom 25 = .ok (.aload_n 0, 1) := by decide +kernel
theorem dX3_wayFrom_26 : decode cX3_wayFrom 26 = .ok (.getfield 30, 3) := by decide +kernel
theorem dX3_wayFrom_29 : decode cX3_wayFrom 29 = .ok (.iload_n 1, 1) := by decide +kernel
theorem dX3_wayFrom_30 : decode cX3_wayFrom 30 = .ok (.iaload, 1) := by decide +kernel
theorem dX3_wayFrom_31 : decode cX3_wayFrom 31 = .ok (.if_icmp .ge 8, 3) := by decide +kernel
theorem dX3_wayFrom_34 : decode cX3_wayFrom 34 = .ok (.iload_n 2, 1) := by decide +kernel
theorem dX3_wayFrom_35 : decode cX3_wayFrom 35 = .ok (.iconst 5, 1) := by decide +kernel
theorem dX3_wayFrom_36 : decode cX3_wayFrom 36 = .ok (.if_icmp .lt 5, 3) := by decide +kernel
theorem dX3_wayFrom_39 : decode cX3_wayFrom 39 = .ok (.iconst (-1), 1) := by decide +kernel
theorem dX3_wayFrom_40 : decode cX3_wayFrom 40 = .ok (.ireturn, 1) := by decide +kernel
theorem dX3_wayFrom_41 : decode cX3_wayFrom 41 = .ok (.aload_n 0, 1) := by decide +kernel
theorem dX3_wayFrom_42 : decode cX3_wayFrom 42 = .ok (.getfield 27, 3) := by decide +kernel
theorem dX3_wayFrom_45 : decode cX3_wayFrom 45 = .ok (.iload_n 1, 1) := by decide +kernel
theorem dX3_wayFrom_46 : decode cX3_wayFrom 46 = .ok (.iconst 5, 1) := by decide +kernel
theorem dX3_wayFrom_47 : decode cX3_wayFrom 47 = .ok (.imul, 1) := by decide +kernel
theorem dX3_wayFrom_48 : decode cX3_wayFrom 48 = .ok (.iload_n 2, 1) := by decide +kernel
theorem dX3_wayFrom_49 : decode cX3_wayFrom 49 = .ok (.iadd, 1) := by decide +kernel
theorem dX3_wayFrom_50 : decode cX3_wayFrom 50 = .ok (.iaload, 1) := by decide +kernel
theorem dX3_wayFrom_51 : decode cX3_wayFrom 51 = .ok (.ireturn, 1) := by decide +kernel
theorem dX3_liking_0 : decode cX3_liking 0 = .ok (.aload_n 0, 1) := by decide +kernel
theorem dX3_liking_1 : decode cX3_liking 1 = .ok (.iload_n 1, 1) := by decide +kernel
theorem dX3_liking_2 : decode cX3_liking 2 = .ok (.invokevirtual 76, 3) := by decide +kernel
theorem dX3_liking_5 : decode cX3_liking 5 = .ok (.ifCond .ne 5, 3) := by decide +kernel
theorem dX3_liking_8 : decode cX3_liking 8 = .ok (.iconst 0, 1) := by decide +kernel
theorem dX3_liking_9 : decode cX3_liking 9 = .ok (.ireturn, 1) := by decide +kernel
theorem dX3_liking_10 : decode cX3_liking 10 = .ok (.iconst 1, 1) := by decide +kernel
theorem dX3_liking_11 : decode cX3_liking 11 = .ok (.aload_n 0, 1) := by decide +kernel
theorem dX3_liking_12 : decode cX3_liking 12 = .ok (.getfield 56, 3) := by decide +kernel
theorem dX3_liking_15 : decode cX3_liking 15 = .ok (.iload_n 2, 1) := by decide +kernel
theorem dX3_liking_16 : decode cX3_liking 16 = .ok (.imul, 1) := by decide +kernel
theorem dX3_liking_17 : decode cX3_liking 17 = .ok (.iadd, 1) := by decide +kernel
theorem dX3_liking_18 : decode cX3_liking 18 = .ok (.istore 4, 2) := by decide +kernel
theorem dX3_liking_20 : decode cX3_liking 20 = .ok (.aload_n 0, 1) := by decide +kernel
theorem dX3_liking_21 : decode cX3_liking 21 = .ok (.getfield 21, 3) := by decide +kernel
theorem dX3_liking_24 : decode cX3_liking 24 = .ok (.iload_n 1, 1) := by decide +kernel
theorem dX3_liking_25 : decode cX3_liking 25 = .ok (.iaload, 1) := by decide +kernel
theorem dX3_liking_26 : decode cX3_liking 26 = .ok (.iconst 1, 1) := by decide +kernel
theorem dX3_liking_27 : decode cX3_liking 27 = .ok (.iand, 1) := by decide +kernel
theorem dX3_liking_28 : decode cX3_liking 28 = .ok (.ifCond .eq 12, 3) := by decide +kernel
theorem dX3_liking_31 : decode cX3_liking 31 = .ok (.iload 4, 2) := by decide +kernel
theorem dX3_liking_33 : decode cX3_liking 33 = .ok (.aload_n 0, 1) := by decide +kernel
theorem dX3_liking_34 : decode cX3_liking 34 = .ok (.getfield 59, 3) := by decide +kernel
theorem dX3_liking_37 : decode cX3_liking 37 = .ok (.iadd, 1) := by decide +kernel
theorem dX3_liking_38 : decode cX3_liking 38 = .ok (.istore 4, 2) := by decide +kernel
theorem dX3_liking_40 : decode cX3_liking 40 = .ok (.aload_n 0, 1) := by decide +kernel
theorem dX3_liking_41 : decode cX3_liking 41 = .ok (.getfield 21, 3) := by decide +kernel
theorem dX3_liking_44 : decode cX3_liking 44 = .ok (.iload_n 1, 1) := by decide +kernel
theorem dX3_liking_45 : decode cX3_liking 45 = .ok (.iaload, 1) := by decide +kernel
theorem dX3_liking_46 : decode cX3_liking 46 = .ok (.iconst 2, 1) := by decide +kernel
theorem dX3_liking_47 : decode cX3_liking 47 = .ok (.iand, 1) := by decide +kernel
theorem dX3_liking_48 : decode cX3_liking 48 = .ok (.ifCond .eq 12, 3) := by decide +kernel
theorem dX3_liking_51 : decode cX3_liking 51 = .ok (.iload 4, 2) := by decide +kernel
theorem dX3_liking_53 : decode cX3_liking 53 = .ok (.aload_n 0, 1) := by decide +kernel
theorem dX3_liking_54 : decode cX3_liking 54 = .ok (.getfield 62, 3) := by decide +kernel
theorem dX3_liking_57 : decode cX3_liking 57 = .ok (.iadd, 1) := by decide +kernel
theorem dX3_liking_58 : decode cX3_liking 58 = .ok (.istore 4, 2) := by decide +kernel
theorem dX3_liking_60 : decode cX3_liking 60 = .ok (.aload_n 0, 1) := by decide +kernel
theorem dX3_liking_61 : decode cX3_liking 61 = .ok (.getfield 21, 3) := by decide +kernel
theorem dX3_liking_64 : decode cX3_liking 64 = .ok (.iload_n 1, 1) := by decide +kernel
theorem dX3_liking_65 : decode cX3_liking 65 = .ok (.iaload, 1) := by decide +kernel
theorem dX3_liking_66 : decode cX3_liking 66 = .ok (.iconst 4, 1) := by decide +kernel
theorem dX3_liking_67 : decode cX3_liking 67 = .ok (.iand, 1) := by decide +kernel
theorem dX3_liking_68 : decode cX3_liking 68 = .ok (.ifCond .eq 12, 3) := by decide +kernel
theorem dX3_liking_71 : decode cX3_liking 71 = .ok (.iload 4, 2) := by decide +kernel
theorem dX3_liking_73 : decode cX3_liking 73 = .ok (.aload_n 0, 1) := by decide +kernel
theorem dX3_liking_74 : decode cX3_liking 74 = .ok (.getfield 65, 3) := by decide +kernel
theorem dX3_liking_77 : decode cX3_liking 77 = .ok (.isub, 1) := by decide +kernel
theorem dX3_liking_78 : decode cX3_liking 78 = .ok (.istore 4, 2) := by decide +kernel
theorem dX3_liking_80 : decode cX3_liking 80 = .ok (.iconst 1, 1) := by decide +kernel
theorem dX3_liking_81 : decode cX3_liking 81 = .ok (.iload 4, 2) := by decide +kernel
theorem dX3_liking_83 : decode cX3_liking 83 = .ok (.invokestatic 84, 3) := by decide +kernel
theorem dX3_liking_86 : decode cX3_liking 86 = .ok (.iload_n 3, 1) := by decide +kernel
theorem dX3_liking_87 : decode cX3_liking 87 = .ok (.ifCond .eq 8, 3) := by decide +kernel
theorem dX3_liking_90 : decode cX3_liking 90 = .ok (.bipush 20, 2) := by decide +kernel
theorem dX3_liking_92 : decode cX3_liking 92 = .ok (.goto 4, 3) := by decide +kernel
theorem dX3_liking_95 : decode cX3_liking 95 = .ok (.iconst 0, 1) := by decide +kernel
theorem dX3_liking_96 : decode cX3_liking 96 = .ok (.iadd, 1) := by decide +kernel
theorem dX3_liking_97 : decode cX3_liking 97 = .ok (.ireturn, 1) := by decide +kernel
theorem dX3_tithesOf_0 : decode cX3_tithesOf 0 = .ok (.aload_n 0, 1) := by decide +kernel
theorem dX3_tithesOf_1 : decode cX3_tithesOf 1 = .ok (.iload_n 2, 1) := by decide +kernel
theorem dX3_tithesOf_2 : decode cX3_tithesOf 2 = .ok (.invokevirtual 76, 3) := by decide +kernel
theorem dX3_tithesOf_5 : decode cX3_tithesOf 5 = .ok (.ifCond .ne 5, 3) := by decide +kernel
theorem dX3_tithesOf_8 : decode cX3_tithesOf 8 = .ok (.iconst 0, 1) := by decide +kernel
theorem dX3_tithesOf_9 : decode cX3_tithesOf 9 = .ok (.ireturn, 1) := by decide +kernel
theorem dX3_tithesOf_10 : decode cX3_tithesOf 10 = .ok (.iconst 0, 1) := by decide +kernel
theorem dX3_tithesOf_11 : decode cX3_tithesOf 11 = .ok (.istore 4, 2) := by decide +kernel
theorem dX3_tithesOf_13 : decode cX3_tithesOf 13 = .ok (.iconst 0, 1) := by decide +kernel
theorem dX3_tithesOf_14 : decode cX3_tithesOf 14 = .ok (.istore 5, 2) := by decide +kernel
theorem dX3_tithesOf_16 : decode cX3_tithesOf 16 = .ok (.iload 5, 2) := by decide +kernel
theorem dX3_tithesOf_18 : decode cX3_tithesOf 18 = .ok (.aload_n 0, 1) := by decide +kernel
theorem dX3_tithesOf_19 : decode cX3_tithesOf 19 = .ok (.getfield 43, 3) := by decide +kernel
theorem dX3_tithesOf_22 : decode cX3_tithesOf 22 = .ok (.if_icmp .ge 45, 3) := by decide +kernel
theorem dX3_tithesOf_25 : decode cX3_tithesOf 25 = .ok (.aload_n 0, 1) := by decide +kernel
theorem dX3_tithesOf_26 : decode cX3_tithesOf 26 = .ok (.iload 5, 2) := by decide +kernel
theorem dX3_tithesOf_28 : decode cX3_tithesOf 28 = .ok (.iload_n 2, 1) := by decide +kernel
theorem dX3_tithesOf_29 : decode cX3_tithesOf 29 = .ok (.iload_n 3, 1) := by decide +kernel
theorem dX3_tithesOf_30 : decode cX3_tithesOf 30 = .ok (.invokevirtual 89, 3) := by decide +kernel
theorem dX3_tithesOf_33 : decode cX3_tithesOf 33 = .ok (.istore 6, 2) := by decide +kernel
theorem dX3_tithesOf_35 : decode cX3_tithesOf 35 = .ok (.iload 6, 2) := by decide +kernel
theorem dX3_tithesOf_37 : decode cX3_tithesOf 37 = .ok (.iload_n 1, 1) := by decide +kernel
theorem dX3_tithesOf_38 : decode cX3_tithesOf 38 = .ok (.ifCond .ne 7, 3) := by decide +kernel
theorem dX3_tithesOf_41 : decode cX3_tithesOf 41 = .ok (.iconst 1, 1) := by decide +kernel
theorem dX3_tithesOf_42 : decode cX3_tithesOf 42 = .ok (.goto 4, 3) := by decide +kernel
theorem dX3_tithesOf_45 : decode cX3_tithesOf 45 = .ok (.iconst 0, 1) := by decide +kernel
theorem dX3_tithesOf_46 : decode cX3_tithesOf 46 = .ok (.if_icmp .ne 15, 3) := by decide +kernel
theorem dX3_tithesOf_49 : decode cX3_tithesOf 49 = .ok (.iload 4, 2) := by decide +kernel
theorem dX3_tithesOf_51 : decode cX3_tithesOf 51 = .ok (.aload_n 0, 1) := by decide +kernel
theorem dX3_tithesOf_52 : decode cX3_tithesOf 52 = .ok (.getfield 24, 3) := by decide +kernel
theorem dX3_tithesOf_55 : decode cX3_tithesOf 55 = .ok (.iload 5, 2) := by decide +kernel
theorem dX3_tithesOf_57 : decode cX3_tithesOf 57 = .ok (.iaload, 1) := by decide +kernel
theorem dX3_tithesOf_58 : decode cX3_tithesOf 58 = .ok (.iadd, 1) := by decide +kernel
theorem dX3_tithesOf_59 : decode cX3_tithesOf 59 = .ok (.istore 4, 2) := by decide +kernel
theorem dX3_tithesOf_61 : decode cX3_tithesOf 61 = .ok (.iinc 5 1, 3) := by decide +kernel
theorem dX3_tithesOf_64 : decode cX3_tithesOf 64 = .ok (.goto (-48), 3) := by decide +kernel
theorem dX3_tithesOf_67 : decode cX3_tithesOf 67 = .ok (.iload 4, 2) := by decide +kernel
theorem dX3_tithesOf_69 : decode cX3_tithesOf 69 = .ok (.ireturn, 1) := by decide +kernel
theorem dX3_isFirstParish_0 : decode cX3_isFirstParish 0 = .ok (.aload_n 0, 1) := by decide +kernel
theorem dX3_isFirstParish_1 : decode cX3_isFirstParish 1 = .ok (.iload_n 1, 1) := by decide +kernel
theorem dX3_isFirstParish_2 : decode cX3_isFirstParish 2 = .ok (.invokevirtual 76, 3) := by decide +kernel
theorem dX3_isFirstParish_5 : decode cX3_isFirstParish 5 = .ok (.ifCond .eq 11, 3) := by decide +kernel
theorem dX3_isFirstParish_8 : decode cX3_isFirstParish 8 = .ok (.aload_n 0, 1) := by decide +kernel
theorem dX3_isFirstParish_9 : decode cX3_isFirstParish 9 = .ok (.iload_n 2, 1) := by decide +kernel
theorem dX3_isFirstParish_10 : decode cX3_isFirstParish 10 = .ok (.invokevirtual 76, 3) := by decide +kernel
theorem dX3_isFirstParish_13 : decode cX3_isFirstParish 13 = .ok (.ifCond .ne 5, 3) := by decide +kernel
theorem dX3_isFirstParish_16 : decode cX3_isFirstParish 16 = .ok (.iconst 0, 1) := by decide +kernel
theorem dX3_isFirstParish_17 : decode cX3_isFirstParish 17 = .ok (.ireturn, 1) := by decide +kernel
theorem dX3_isFirstParish_18 : decode cX3_isFirstParish 18 = .ok (.iload_n 3, 1) := by decide +kernel
theorem dX3_isFirstParish_19 : decode cX3_isFirstParish 19 = .ok (.ifCond .ne 54, 3) := by decide +kernel
theorem dX3_isFirstParish_22 : decode cX3_isFirstParish 22 = .ok (.aload_n 0, 1) := by decide +kernel
theorem dX3_isFirstParish_23 : decode cX3_isFirstParish 23 = .ok (.getfield 9, 3) := by decide +kernel
theorem dX3_isFirstParish_26 : decode cX3_isFirstParish 26 = .ok (.iload_n 1, 1) := by decide +kernel
theorem dX3_isFirstParish_27 : decode cX3_isFirstParish 27 = .ok (.iaload, 1) := by decide +kernel
theorem dX3_isFirstParish_28 : decode cX3_isFirstParish 28 = .ok (.aload_n 0, 1) := by decide +kernel
theorem dX3_isFirstParish_29 : decode cX3_isFirstParish 29 = .ok (.getfield 9, 3) := by decide +kernel
theorem dX3_isFirstParish_32 : decode cX3_isFirstParish 32 = .ok (.iload_n 2, 1) := by decide +kernel
theorem dX3_isFirstParish_33 : decode cX3_isFirstParish 33 = .ok (.iaload, 1) := by decide +kernel
theorem dX3_isFirstParish_34 : decode cX3_isFirstParish 34 = .ok (.if_icmp .lt 33, 3) := by decide +kernel
theorem dX3_isFirstParish_37 : decode cX3_isFirstParish 37 = .ok (.aload_n 0, 1) := by decide +kernel
theorem dX3_isFirstParish_38 : decode cX3_isFirstParish 38 = .ok (.getfield 9, 3) := by decide +kernel
theorem dX3_isFirstParish_41 : decode cX3_isFirstParish 41 = .ok (.iload_n 1, 1) := by decide +kernel
theorem dX3_isFirstParish_42 : decode cX3_isFirstParish 42 = .ok (.iaload, 1) := by decide +kernel
theorem dX3_isFirstParish_43 : decode cX3_isFirstParish 43 = .ok (.aload_n 0, 1) := by decide +kernel
theorem dX3_isFirstParish_44 : decode cX3_isFirstParish 44 = .ok (.getfield 9, 3) := by decide +kernel
theorem dX3_isFirstParish_47 : decode cX3_isFirstParish 47 = .ok (.iload_n 2, 1) := by decide +kernel
theorem dX3_isFirstParish_48 : decode cX3_isFirstParish 48 = .ok (.iaload, 1) := by decide +kernel
theorem dX3_isFirstParish_49 : decode cX3_isFirstParish 49 = .ok (.if_icmp .ne 22, 3) := by decide +kernel
theorem dX3_isFirstParish_52 : decode cX3_isFirstParish 52 = .ok (.aload_n 0, 1) := by decide +kernel
theorem dX3_isFirstParish_53 : decode cX3_isFirstParish 53 = .ok (.getfield 15, 3) := by decide +kernel
theorem dX3_isFirstParish_56 : decode cX3_isFirstParish 56 = .ok (.iload_n 1, 1) := by decide +kernel
theorem dX3_isFirstParish_57 : decode cX3_isFirstParish 57 = .ok (.iaload, 1) := by decide +kernel
theorem dX3_isFirstParish_58 : decode cX3_isFirstParish 58 = .ok (.aload_n 0, 1) := by decide +kernel
theorem dX3_isFirstParish_59 : decode cX3_isFirstParish 59 = .ok (.getfield 15, 3) := by decide +kernel
theorem dX3_isFirstParish_62 : decode cX3_isFirstParish 62 = .ok (.iload_n 2, 1) := by decide +kernel
theorem dX3_isFirstParish_63 : decode cX3_isFirstParish 63 = .ok (.iaload, 1) := by decide +kernel
theorem dX3_isFirstParish_64 : decode cX3_isFirstParish 64 = .ok (.if_icmp .ge 7, 3) := by decide +kernel
theorem dX3_isFirstParish_67 : decode cX3_isFirstParish 67 = .ok (.iconst 1, 1) := by decide +kernel
theorem dX3_isFirstParish_68 : decode cX3_isFirstParish 68 = .ok (.goto 4, 3) := by decide +kernel
theorem dX3_isFirstParish_71 : decode cX3_isFirstParish 71 = .ok (.iconst 0, 1) := by decide +kernel
theorem dX3_isFirstParish_72 : decode cX3_isFirstParish 72 = .ok (.ireturn, 1) := by decide +kernel
theorem dX3_isFirstParish_73 : decode cX3_isFirstParish 73 = .ok (.iload_n 3, 1) := by decide +kernel
theorem dX3_isFirstParish_74 : decode cX3_isFirstParish 74 = .ok (.iconst 1, 1) := by decide +kernel
theorem dX3_isFirstParish_75 : decode cX3_isFirstParish 75 = .ok (.if_icmp .ne 54, 3) := by decide +kernel
theorem dX3_isFirstParish_78 : decode cX3_isFirstParish 78 = .ok (.aload_n 0, 1) := by decide +kernel
theorem dX3_isFirstParish_79 : decode cX3_isFirstParish 79 = .ok (.getfield 15, 3) := by decide +kernel
theorem dX3_isFirstParish_82 : decode cX3_isFirstParish 82 = .ok (.iload_n 1, 1) := by decide +kernel
theorem dX3_isFirstParish_83 : decode cX3_isFirstParish 83 = .ok (.iaload, 1) := by decide +kernel
theorem dX3_isFirstParish_84 : decode cX3_isFirstParish 84 = .ok (.aload_n 0, 1) := by decide +kernel
theorem dX3_isFirstParish_85 : decode cX3_isFirstParish 85 = .ok (.getfield 15, 3) := by decide +kernel
theorem dX3_isFirstParish_88 : decode cX3_isFirstParish 88 = .ok (.iload_n 2, 1) := by decide +kernel
theorem dX3_isFirstParish_89 : decode cX3_isFirstParish 89 = .ok (.iaload, 1) := by decide +kernel
theorem dX3_isFirstParish_90 : decode cX3_isFirstParish 90 = .ok (.if_icmp .lt 33, 3) := by decide +kernel
theorem dX3_isFirstParish_93 : decode cX3_isFirstParish 93 = .ok (.aload_n 0, 1) := by decide +kernel
theorem dX3_isFirstParish_94 : decode cX3_isFirstParish 94 = .ok (.getfield 15, 3) := by decide +kernel
theorem dX3_isFirstParish_97 : decode cX3_isFirstParish 97 = .ok (.iload_n 1, 1) := by decide +kernel
theorem dX3_isFirstParish_98 : decode cX3_isFirstParish 98 = .ok (.iaload, 1) := by decide +kernel
theorem dX3_isFirstParish_99 : decode cX3_isFirstParish 99 = .ok (.aload_n 0, 1) := by decide +kernel
theorem dX3_isFirstParish_100 : decode cX3_isFirstParish 100 = .ok (.getfield 15, 3) := by decide +kernel
theorem dX3_isFirstParish_103 : decode cX3_isFirstParish 103 = .ok (.iload_n 2, 1) := by decide +kernel
theorem dX3_isFirstParish_104 : decode cX3_isFirstParish 104 = .ok (.iaload, 1) := by decide +kernel
theorem dX3_isFirstParish_105 : decode cX3_isFirstParish 105 = .ok (.if_icmp .ne 22, 3) := by decide +kernel
theorem dX3_isFirstParish_108 : decode cX3_isFirstParish 108 = .ok (.aload_n 0, 1) := by decide +kernel
theorem dX3_isFirstParish_109 : decode cX3_isFirstParish 109 = .ok (.getfield 9, 3) := by decide +kernel
theorem dX3_isFirstParish_112 : decode cX3_isFirstParish 112 = .ok (.iload_n 1, 1) := by decide +kernel
theorem dX3_isFirstParish_113 : decode cX3_isFirstParish 113 = .ok (.iaload, 1) := by decide +kernel
theorem dX3_isFirstParish_114 : decode cX3_isFirstParish 114 = .ok (.aload_n 0, 1) := by decide +kernel
theorem dX3_isFirstParish_115 : decode cX3_isFirstParish 115 = .ok (.getfield 9, 3) := by decide +kernel
theorem dX3_isFirstParish_118 : decode cX3_isFirstParish 118 = .ok (.iload_n 2, 1) := by decide +kernel
theorem dX3_isFirstParish_119 : decode cX3_isFirstParish 119 = .ok (.iaload, 1) := by decide +kernel
theorem dX3_isFirstParish_120 : decode cX3_isFirstParish 120 = .ok (.if_icmp .ge 7, 3) := by decide +kernel
theorem dX3_isFirstParish_123 : decode cX3_isFirstParish 123 = .ok (.iconst 1, 1) := by decide +kernel
theorem dX3_isFirstParish_124 : decode cX3_isFirstParish 124 = .ok (.goto 4, 3) := by decide +kernel
theorem dX3_isFirstParish_127 : decode cX3_isFirstParish 127 = .ok (.iconst 0, 1) := by decide +kernel
theorem dX3_isFirstParish_128 : decode cX3_isFirstParish 128 = .ok (.ireturn, 1) := by decide +kernel
theorem dX3_isFirstParish_129 : decode cX3_isFirstParish 129 = .ok (.aload_n 0, 1) := by decide +kernel
theorem dX3_isFirstParish_130 : decode cX3_isFirstParish 130 = .ok (.getfield 9, 3) := by decide +kernel
theorem dX3_isFirstParish_133 : decode cX3_isFirstParish 133 = .ok (.iload_n 1, 1) := by decide +kernel
theorem dX3_isFirstParish_134 : decode cX3_isFirstParish 134 = .ok (.iaload, 1) := by decide +kernel
theorem dX3_isFirstParish_135 : decode cX3_isFirstParish 135 = .ok (.aload_n 0, 1) := by decide +kernel
theorem dX3_isFirstParish_136 : decode cX3_isFirstParish 136 = .ok (.getfield 15, 3) := by decide +kernel
theorem dX3_isFirstParish_139 : decode cX3_isFirstParish 139 = .ok (.iload_n 1, 1) := by decide +kernel
theorem dX3_isFirstParish_140 : decode cX3_isFirstParish 140 = .ok (.iaload, 1) := by decide +kernel
theorem dX3_isFirstParish_141 : decode cX3_isFirstParish 141 = .ok (.iadd, 1) := by decide +kernel
theorem dX3_isFirstParish_142 : decode cX3_isFirstParish 142 = .ok (.aload_n 0, 1) := by decide +kernel
theorem dX3_isFirstParish_143 : decode cX3_isFirstParish 143 = .ok (.getfield 9, 3) := by decide +kernel
theorem dX3_isFirstParish_146 : decode cX3_isFirstParish 146 = .ok (.iload_n 2, 1) := by decide +kernel
theorem dX3_isFirstParish_147 : decode cX3_isFirstParish 147 = .ok (.iaload, 1) := by decide +kernel
theorem dX3_isFirstParish_148 : decode cX3_isFirstParish 148 = .ok (.aload_n 0, 1) := by decide +kernel
theorem dX3_isFirstParish_149 : decode cX3_isFirstParish 149 = .ok (.getfield 15, 3) := by decide +kernel
theorem dX3_isFirstParish_152 : decode cX3_isFirstParish 152 = .ok (.iload_n 2, 1) := by decide +kernel
theorem dX3_isFirstParish_153 : decode cX3_isFirstParish 153 = .ok (.iaload, 1) := by decide +kernel
theorem dX3_isFirstParish_154 : decode cX3_isFirstParish 154 = .ok (.iadd, 1) := by decide +kernel
theorem dX3_isFirstParish_155 : decode cX3_isFirstParish 155 = .ok (.if_icmp .ge 7, 3) := by decide +kernel
theorem dX3_isFirstParish_158 : decode cX3_isFirstParish 158 = .ok (.iconst 1, 1) := by decide +kernel
theorem dX3_isFirstParish_159 : decode cX3_isFirstParish 159 = .ok (.goto 4, 3) := by decide +kernel
theorem dX3_isFirstParish_162 : decode cX3_isFirstParish 162 = .ok (.iconst 0, 1) := by decide +kernel
theorem dX3_isFirstParish_163 : decode cX3_isFirstParish 163 = .ok (.ireturn, 1) := by decide +kernel
theorem dX4_init_0 : decode cX4_init 0 = .ok (.aload_n 0, 1) := by decide +kernel
theorem dX4_init_1 : decode cX4_init 1 = .ok (.invokespecial 3, 3) := by decide +kernel
theorem dX4_init_4 : decode cX4_init 4 = .ok (.aload_n 0, 1) := by decide +kernel
theorem dX4_init_5 : decode cX4_init 5 = .ok (.bipush 40, 2) := by decide +kernel
theorem dX4_init_7 : decode cX4_init 7 = .ok (.newarray .int, 2) := by decide +kernel
theorem dX4_init_9 : decode cX4_init 9 = .ok (.putfield 9, 3) := by decide +kernel
theorem dX4_init_12 : decode cX4_init 12 = .ok (.aload_n 0, 1) := by decide +kernel
theorem dX4_init_13 : decode cX4_init 13 = .ok (.bipush 40, 2) := by decide +kernel
theorem dX4_init_15 : decode cX4_init 15 = .ok (.newarray .int, 2) := by decide +kernel
theorem dX4_init_17 : decode cX4_init 17 = .ok (.putfield 15, 3) := by decide +kernel
theorem dX4_init_20 : decode cX4_init 20 = .ok (.aload_n 0, 1) := by decide +kernel
theorem dX4_init_21 : decode cX4_init 21 = .ok (.aload_n 1, 1) := by decide +kernel
theorem dX4_init_22 : decode cX4_init 22 = .ok (.putfield 18, 3) := by decide +kernel
theorem dX4_init_25 : decode cX4_init 25 = .ok (.aload_n 0, 1) := by decide +kernel
theorem dX4_init_26 : decode cX4_init 26 = .ok (.iconst (-1), 1) := by decide +kernel
theorem dX4_init_27 : decode cX4_init 27 = .ok (.putfield 22, 3) := by decide +kernel
theorem dX4_init_30 : decode cX4_init 30 = .ok (.aload_n 0, 1) := by decide +kernel
theorem dX4_init_31 : decode cX4_init 31 = .ok (.iconst (-1), 1) := by decide +kernel
theorem dX4_init_32 : decode cX4_init 32 = .ok (.putfield 26, 3) := by decide +kernel
theorem dX4_init_35 : decode cX4_init 35 = .ok (.aload_n 0, 1) := by decide +kernel
theorem dX4_init_36 : decode cX4_init 36 = .ok (.iconst (-1), 1) := by decide +kernel
theorem dX4_init_37 : decode cX4_init 37 = .ok (.putfield 29, 3) := by decide +kernel
theorem dX4_init_40 : decode cX4_init 40 = .ok (.return_, 1) := by decide +kernel
theorem dX4_settle_0 : decode cX4_settle 0 = .ok (.iconst 0, 1) := by decide +kernel
theorem dX4_settle_1 : decode cX4_settle 1 = .ok (.istore_n 1, 1) := by decide +kernel
theorem dX4_settle_2 : decode cX4_settle 2 = .ok (.iload_n 1, 1) := by decide +kernel
theorem dX4_settle_3 : decode cX4_settle 3 = .ok (.bipush 40, 2) := by decide +kernel
theorem dX4_settle_5 : decode cX4_settle 5 = .ok (.if_icmp .ge 39, 3) := by decide +kernel
theorem dX4_settle_8 : decode cX4_settle 8 = .ok (.aload_n 0, 1) := by decide +kernel
theorem dX4_settle_9 : decode cX4_settle 9 = .ok (.getfield 9, 3) := by decide +kernel
theorem dX4_settle_12 : decode cX4_settle 12 = .ok (.iload_n 1, 1) := by decide +kernel
theorem dX4_settle_13 : decode cX4_settle 13 = .ok (.aload_n 0, 1) := by decide +kernel
theorem dX4_settle_14 : decode cX4_settle 14 = .ok (.getfield 18, 3) := by decide +kernel
theorem dX4_settle_17 : decode cX4_settle 17 = .ok (.getfield 32, 3) := by decide +kernel
theorem dX4_settle_20 : decode cX4_settle 20 = .ok (.iload_n 1, 1) := by decide +kernel
theorem dX4_settle_21 : decode cX4_settle 21 = .ok (.iaload, 1) := by decide +kernel
theorem dX4_settle_22 : decode cX4_settle 22 = .ok (.iastore, 1) := by decide +kernel
theorem dX4_settle_23 : decode cX4_settle 23 = .ok (.aload_n 0, 1) := by decide +kernel
theorem dX4_settle_24 : decode cX4_settle 24 = .ok (.getfield 15, 3) := by decide +kernel
theorem dX4_settle_27 : decode cX4_settle 27 = .ok (.iload_n 1, 1) := by decide +kernel
theorem dX4_settle_28 : decode cX4_settle 28 = .ok (.aload_n 0, 1) := by decide +kernel
theorem dX4_settle_29 : decode cX4_settle 29 = .ok (.getfield 18, 3) := by decide +kernel
theorem dX4_settle_32 : decode cX4_settle 32 = .ok (.getfield 32, 3) := by decide +kernel
theorem dX4_settle_35 : decode cX4_settle 35 = .ok (.iload_n 1, 1) := by decide +kernel
theorem dX4_settle_36 : decode cX4_settle 36 = .ok (.iaload, 1) := by decide +kernel
theorem dX4_settle_37 : decode cX4_settle 37 = .ok (.iastore, 1) := by decide +kernel
theorem dX4_settle_38 : decode cX4_settle 38 = .ok (.iinc 1 1, 3) := by decide +kernel
theorem dX4_settle_41 : decode cX4_settle 41 = .ok (.goto (-39), 3) := by decide +kernel
theorem dX4_settle_44 : decode cX4_settle 44 = .ok (.aload_n 0, 1) := by decide +kernel
theorem dX4_settle_45 : decode cX4_settle 45 = .ok (.aload_n 0, 1) := by decide +kernel
theorem dX4_settle_46 : decode cX4_settle 46 = .ok (.getfield 18, 3) := by decide +kernel
theorem dX4_settle_49 : decode cX4_settle 49 = .ok (.getfield 35, 3) := by decide +kernel
theorem dX4_settle_52 : decode cX4_settle 52 = .ok (.putfield 22, 3) := by decide +kernel
theorem dX4_settle_55 : decode cX4_settle 55 = .ok (.aload_n 0, 1) := by decide +kernel
theorem dX4_settle_56 : decode cX4_settle 56 = .ok (.iconst (-1), 1) := by decide +kernel
theorem dX4_settle_57 : decode cX4_settle 57 = .ok (.putfield 26, 3) := by decide +kernel
theorem dX4_settle_60 : decode cX4_settle 60 = .ok (.aload_n 0, 1) := by decide +kernel
theorem dX4_settle_61 : decode cX4_settle 61 = .ok (.iconst (-1), 1) := by decide +kernel
theorem dX4_settle_62 : decode cX4_settle 62 = .ok (.putfield 29, 3) := by decide +kernel
theorem dX4_settle_65 : decode cX4_settle 65 = .ok (.aload_n 0, 1) := by decide +kernel
theorem dX4_settle_66 : decode cX4_settle 66 = .ok (.iconst 0, 1) := by decide +kernel
theorem dX4_settle_67 : decode cX4_settle 67 = .ok (.putfield 36, 3) := by decide +kernel
theorem dX4_settle_70 : decode cX4_settle 70 = .ok (.aload_n 0, 1) := by decide +kernel
theorem dX4_settle_71 : decode cX4_settle 71 = .ok (.iconst 0, 1) := by decide +kernel
theorem dX4_settle_72 : decode cX4_settle 72 = .ok (.putfield 39, 3) := by decide +kernel
theorem dX4_settle_75 : decode cX4_settle 75 = .ok (.aload_n 0, 1) := by decide +kernel
theorem dX4_settle_76 : decode cX4_settle 76 = .ok (.iconst 0, 1) := by decide +kernel
theorem dX4_settle_77 : decode cX4_settle 77 = .ok (.putfield 42, 3) := by decide +kernel
theorem dX4_settle_80 : decode cX4_settle 80 = .ok (.return_, 1) := by decide +kernel
theorem dX4_takeFrom_0 : decode cX4_takeFrom 0 = .ok (.iconst 0, 1) := by decide +kernel
theorem dX4_takeFrom_1 : decode cX4_takeFrom 1 = .ok (.istore_n 2, 1) := by decide +kernel
theorem dX4_takeFrom_2 : decode cX4_takeFrom 2 = .ok (.iload_n 2, 1) := by decide +kernel
theorem dX4_takeFrom_3 : decode cX4_takeFrom 3 = .ok (.bipush 40, 2) := by decide +kernel
theorem dX4_takeFrom_5 : decode cX4_takeFrom 5 = .ok (.if_icmp .ge 33, 3) := by decide +kernel
theorem dX4_takeFrom_8 : decode cX4_takeFrom 8 = .ok (.aload_n 0, 1) := by decide +kernel
theorem dX4_takeFrom_9 : decode cX4_takeFrom 9 = .ok (.getfield 9, 3) := by decide +kernel
theorem dX4_takeFrom_12 : decode cX4_takeFrom 12 = .ok (.iload_n 2, 1) := by decide +kernel
theorem dX4_takeFrom_13 : decode cX4_takeFrom 13 = .ok (.aload_n 1, 1) := by decide +kernel
theorem dX4_takeFrom_14 : decode cX4_takeFrom 14 = .ok (.getfield 9, 3) := by decide +kernel
theorem dX4_takeFrom_17 : decode cX4_takeFrom 17 = .ok (.iload_n 2, 1) := by decide +kernel
theorem dX4_takeFrom_18 : decode cX4_takeFrom 18 = .ok (.iaload, 1) := by decide +kernel
theorem dX4_takeFrom_19 : decode cX4_takeFrom 19 = .ok (.iastore, 1) := by decide +kernel
theorem dX4_takeFrom_20 : decode cX4_takeFrom 20 = .ok (.aload_n 0, 1) := by decide +kernel
theorem dX4_takeFrom_21 : decode cX4_takeFrom 21 = .ok (.getfield 15, 3) := by decide +kernel
theorem dX4_takeFrom_24 : decode cX4_takeFrom 24 = .ok (.iload_n 2, 1) := by decide +kernel
theorem dX4_takeFrom_25 : decode cX4_takeFrom 25 = .ok (.aload_n 1, 1) := by decide +kernel
theorem dX4_takeFrom_26 : decode cX4_takeFrom 26 = .ok (.getfield 15, 3) := by decide +kernel
theorem dX4_takeFrom_29 : decode cX4_takeFrom 29 = .ok (.iload_n 2, 1) := by decide +kernel
theorem dX4_takeFrom_30 : decode cX4_takeFrom 30 = .ok (.iaload, 1) := by decide +kernel
theorem dX4_takeFrom_31 : decode cX4_takeFrom 31 = .ok (.iastore, 1) := by decide +kernel
theorem dX4_takeFrom_32 : decode cX4_takeFrom 32 = .ok (.iinc 2 1, 3) := by decide +kernel
theorem dX4_takeFrom_35 : decode cX4_takeFrom 35 = .ok (.goto (-33), 3) := by decide +kernel
theorem dX4_takeFrom_38 : decode cX4_takeFrom 38 = .ok (.aload_n 0, 1) := by decide +kernel
theorem dX4_takeFrom_39 : decode cX4_takeFrom 39 = .ok (.aload_n 1, 1) := by decide +kernel
theorem dX4_takeFrom_40 : decode cX4_takeFrom 40 = .ok (.getfield 22, 3) := by decide +kernel
theorem dX4_takeFrom_43 : decode cX4_takeFrom 43 = .ok (.putfield 22, 3) := by decide +kernel
theorem dX4_takeFrom_46 : decode cX4_takeFrom 46 = .ok (.aload_n 0, 1) := by decide +kernel
theorem dX4_takeFrom_47 : decode cX4_takeFrom 47 = .ok (.aload_n 1, 1) := by decide +kernel
theorem dX4_takeFrom_48 : decode cX4_takeFrom 48 = .ok (.getfield 26, 3) := by decide +kernel
theorem dX4_takeFrom_51 : decode cX4_takeFrom 51 = .ok (.putfield 26, 3) := by decide +kernel
theorem dX4_takeFrom_54 : decode cX4_takeFrom 54 = .ok (.aload_n 0, 1) := by decide +kernel
theorem dX4_takeFrom_55 : decode cX4_takeFrom 55 = .ok (.aload_n 1, 1) := by decide +kernel
theorem dX4_takeFrom_56 : decode cX4_takeFrom 56 = .ok (.getfield 29, 3) := by decide +kernel
theorem dX4_takeFrom_59 : decode cX4_takeFrom 59 = .ok (.putfield 29, 3) := by decide +kernel
theorem dX4_takeFrom_62 : decode cX4_takeFrom 62 = .ok (.aload_n 0, 1) := by decide +kernel
theorem dX4_takeFrom_63 : decode cX4_takeFrom 63 = .ok (.aload_n 1, 1) := by decide +kernel
theorem dX4_takeFrom_64 : decode cX4_takeFrom 64 = .ok (.getfield 36, 3) := by decide +kernel
theorem dX4_takeFrom_67 : decode cX4_takeFrom 67 = .ok (.putfield 36, 3) := by decide +kernel
theorem dX4_takeFrom_70 : decode cX4_takeFrom 70 = .ok (.aload_n 0, 1) := by decide +kernel
theorem dX4_takeFrom_71 : decode cX4_takeFrom 71 = .ok (.aload_n 1, 1) := by decide +kernel
theorem dX4_takeFrom_72 : decode cX4_takeFrom 72 = .ok (.getfield 39, 3) := by decide +kernel
theorem dX4_takeFrom_75 : decode cX4_takeFrom 75 = .ok (.putfield 39, 3) := by decide +kernel
theorem dX4_takeFrom_78 : decode cX4_takeFrom 78 = .ok (.aload_n 0, 1) := by decide +kernel
theorem dX4_takeFrom_79 : decode cX4_takeFrom 79 = .ok (.aload_n 1, 1) := by decide +kernel
theorem dX4_takeFrom_80 : decode cX4_takeFrom 80 = .ok (.getfield 42, 3) := by decide +kernel
theorem dX4_takeFrom_83 : decode cX4_takeFrom 83 = .ok (.putfield 42, 3) := by decide +kernel
theorem dX4_takeFrom_86 : decode cX4_takeFrom 86 = .ok (.aload_n 0, 1) := by decide +kernel
theorem dX4_takeFrom_87 : decode cX4_takeFrom 87 = .ok (.aload_n 1, 1) := by decide +kernel
theorem dX4_takeFrom_88 : decode cX4_takeFrom 88 = .ok (.getfield 45, 3) := by decide +kernel
theorem dX4_takeFrom_91 : decode cX4_takeFrom 91 = .ok (.putfield 45, 3) := by decide +kernel
theorem dX4_takeFrom_94 : decode cX4_takeFrom 94 = .ok (.aload_n 0, 1) := by decide +kernel
theorem dX4_takeFrom_95 : decode cX4_takeFrom 95 = .ok (.aload_n 1, 1) := by decide +kernel
theorem dX4_takeFrom_96 : decode cX4_takeFrom 96 = .ok (.getfield 48, 3) := by decide +kernel
theorem dX4_takeFrom_99 : decode cX4_takeFrom 99 = .ok (.putfield 48, 3) := by decide +kernel
theorem dX4_takeFrom_102 : decode cX4_takeFrom 102 = .ok (.return_, 1) := by decide +kernel
theorem dX4_likingNow_0 : decode cX4_likingNow 0 = .ok (.aload_n 0, 1) := by decide +kernel
theorem dX4_likingNow_1 : decode cX4_likingNow 1 = .ok (.getfield 18, 3) := by decide +kernel
theorem dX4_likingNow_4 : decode cX4_likingNow 4 = .ok (.iload_n 1, 1) := by decide +kernel
theorem dX4_likingNow_5 : decode cX4_likingNow 5 = .ok (.invokevirtual 51, 3) := by decide +kernel
theorem dX4_likingNow_8 : decode cX4_likingNow 8 = .ok (.ifCond .eq 33, 3) := by decide +kernel
theorem dX4_likingNow_11 : decode cX4_likingNow 11 = .ok (.aload_n 0, 1) := by decide +kernel
theorem dX4_likingNow_12 : decode cX4_likingNow 12 = .ok (.getfield 18, 3) := by decide +kernel
theorem dX4_likingNow_15 : decode cX4_likingNow 15 = .ok (.iload_n 1, 1) := by decide +kernel
theorem dX4_likingNow_16 : decode cX4_likingNow 16 = .ok (.aload_n 0, 1) := by decide +kernel
theorem dX4_likingNow_17 : decode cX4_likingNow 17 = .ok (.getfield 9, 3) := by decide +kernel
theorem dX4_likingNow_20 : decode cX4_likingNow 20 = .ok (.iload_n 1, 1) := by decide +kernel
theorem dX4_likingNow_21 : decode cX4_likingNow 21 = .ok (.iaload, 1) := by decide +kernel
theorem dX4_likingNow_22 : decode cX4_likingNow 22 = .ok (.iload_n 1, 1) := by decide +kernel
theorem dX4_likingNow_23 : decode cX4_likingNow 23 = .ok (.aload_n 0, 1) := by decide +kernel
theorem dX4_likingNow_24 : decode cX4_likingNow 24 = .ok (.getfield 29, 3) := by decide +kernel
theorem dX4_likingNow_27 : decode cX4_likingNow 27 = .ok (.if_icmp .ne 7, 3) := by decide +kernel
theorem dX4_likingNow_30 : decode cX4_likingNow 30 = .ok (.iconst 1, 1) := by decide +kernel
theorem dX4_likingNow_31 : decode cX4_likingNow 31 = .ok (.goto 4, 3) := by decide +kernel
theorem dX4_likingNow_34 : decode cX4_likingNow 34 = .ok (.iconst 0, 1) := by decide +kernel
theorem dX4_likingNow_35 : decode cX4_likingNow 35 = .ok (.invokevirtual 55, 3) := by decide +kernel
theorem dX4_likingNow_38 : decode cX4_likingNow 38 = .ok (.goto 4, 3) := by decide +kernel
theorem dX4_likingNow_41 : decode cX4_likingNow 41 = .ok (.iconst 0, 1) := by decide +kernel
theorem dX4_likingNow_42 : decode cX4_likingNow 42 = .ok (.ireturn, 1) := by decide +kernel
theorem dX4_passDay_0 : decode cX4_passDay 0 = .ok (.iconst 0, 1) := by decide +kernel
theorem dX4_passDay_1 : decode cX4_passDay 1 = .ok (.istore_n 1, 1) := by decide +kernel
theorem dX4_passDay_2 : decode cX4_passDay 2 = .ok (.iload_n 1, 1) := by decide +kernel
theorem dX4_passDay_3 : decode cX4_passDay 3 = .ok (.aload_n 0, 1) := by decide +kernel
theorem dX4_passDay_4 : decode cX4_passDay 4 = .ok (.getfield 18, 3) := by decide +kernel
theorem dX4_passDay_7 : decode cX4_passDay 7 = .ok (.getfield 59, 3) := by decide +kernel
theorem dX4_passDay_10 : decode cX4_passDay 10 = .ok (.if_icmp .ge 29, 3) := by decide +kernel
theorem dX4_passDay_13 : decode cX4_passDay 13 = .ok (.aload_n 0, 1) := by decide +kernel
theorem dX4_passDay_14 : decode cX4_passDay 14 = .ok (.aload_n 0, 1) := by decide +kernel
theorem dX4_passDay_15 : decode cX4_passDay 15 = .ok (.aload_n 0, 1) := by decide +kernel
theorem dX4_passDay_16 : decode cX4_passDay 16 = .ok (.getfield 22, 3) := by decide +kernel
theorem dX4_passDay_19 : decode cX4_passDay 19 = .ok (.invokevirtual 62, 3) := by decide +kernel
theorem dX4_passDay_22 : decode cX4_passDay 22 = .ok (.putfield 22, 3) := by decide +kernel
theorem dX4_passDay_25 : decode cX4_passDay 25 = .ok (.aload_n 0, 1) := by decide +kernel
theorem dX4_passDay_26 : decode cX4_passDay 26 = .ok (.aload_n 0, 1) := by decide +kernel
theorem dX4_passDay_27 : decode cX4_passDay 27 = .ok (.getfield 22, 3) := by decide +kernel
theorem dX4_passDay_30 : decode cX4_passDay 30 = .ok (.invokevirtual 66, 3) := by decide +kernel
theorem dX4_passDay_33 : decode cX4_passDay 33 = .ok (.iinc 1 1, 3) := by decide +kernel
theorem dX4_passDay_36 : decode cX4_passDay 36 = .ok (.goto (-34), 3) := by decide +kernel
theorem dX4_passDay_39 : decode cX4_passDay 39 = .ok (.aload_n 0, 1) := by decide +kernel
theorem dX4_passDay_40 : decode cX4_passDay 40 = .ok (.aload_n 0, 1) := by decide +kernel
theorem dX4_passDay_41 : decode cX4_passDay 41 = .ok (.getfield 22, 3) := by decide +kernel
theorem dX4_passDay_44 : decode cX4_passDay 44 = .ok (.putfield 26, 3) := by decide +kernel
theorem dX4_passDay_47 : decode cX4_passDay 47 = .ok (.aload_n 0, 1) := by decide +kernel
theorem dX4_passDay_48 : decode cX4_passDay 48 = .ok (.dup, 1) := by decide +kernel
theorem dX4_passDay_49 : decode cX4_passDay 49 = .ok (.getfield 36, 3) := by decide +kernel
theorem dX4_passDay_52 : decode cX4_passDay 52 = .ok (.aload_n 0, 1) := by decide +kernel
theorem dX4_passDay_53 : decode cX4_passDay 53 = .ok (.getfield 18, 3) := by decide +kernel
theorem dX4_passDay_56 : decode cX4_passDay 56 = .ok (.iconst 0, 1) := by decide +kernel
theorem dX4_passDay_57 : decode cX4_passDay 57 = .ok (.aload_n 0, 1) := by decide +kernel
theorem dX4_passDay_58 : decode cX4_passDay 58 = .ok (.getfield 26, 3) := by decide +kernel
theorem dX4_passDay_61 : decode cX4_passDay 61 = .ok (.aload_n 0, 1) := by decide +kernel
theorem dX4_passDay_62 : decode cX4_passDay 62 = .ok (.getfield 45, 3) := by decide +kernel
theorem dX4_passDay_65 : decode cX4_passDay 65 = .ok (.invokevirtual 70, 3) := by decide +kernel
theorem dX4_passDay_68 : decode cX4_passDay 68 = .ok (.iadd, 1) := by decide +kernel
theorem dX4_passDay_69 : decode cX4_passDay 69 = .ok (.putfield 36, 3) := by decide +kernel
theorem dX4_passDay_72 : decode cX4_passDay 72 = .ok (.aload_n 0, 1) := by decide +kernel
theorem dX4_passDay_73 : decode cX4_passDay 73 = .ok (.dup, 1) := by decide +kernel
theorem dX4_passDay_74 : decode cX4_passDay 74 = .ok (.getfield 39, 3) := by decide +kernel
theorem dX4_passDay_77 : decode cX4_passDay 77 = .ok (.aload_n 0, 1) := by decide +kernel
theorem dX4_passDay_78 : decode cX4_passDay 78 = .ok (.getfield 18, 3) := by decide +kernel
theorem dX4_passDay_81 : decode cX4_passDay 81 = .ok (.iconst 1, 1) := by decide +kernel
theorem dX4_passDay_82 : decode cX4_passDay 82 = .ok (.aload_n 0, 1) := by decide +kernel
theorem dX4_passDay_83 : decode cX4_passDay 83 = .ok (.getfield 26, 3) := by decide +kernel
theorem dX4_passDay_86 : decode cX4_passDay 86 = .ok (.aload_n 0, 1) := by decide +kernel
theorem dX4_passDay_87 : decode cX4_passDay 87 = .ok (.getfield 45, 3) := by decide +kernel
theorem dX4_passDay_90 : decode cX4_passDay 90 = .ok (.invokevirtual 70, 3) := by decide +kernel
theorem dX4_passDay_93 : decode cX4_passDay 93 = .ok (.iadd, 1) := by decide +kernel
theorem dX4_passDay_94 : decode cX4_passDay 94 = .ok (.putfield 39, 3) := by decide +kernel
theorem dX4_passDay_97 : decode cX4_passDay 97 = .ok (.aload_n 0, 1) := by decide +kernel
theorem dX4_passDay_98 : decode cX4_passDay 98 = .ok (.dup, 1) := by decide +kernel
theorem dX4_passDay_99 : decode cX4_passDay 99 = .ok (.getfield 42, 3) := by decide +kernel
theorem dX4_passDay_102 : decode cX4_passDay 102 = .ok (.iconst 1, 1) := by decide +kernel
theorem dX4_passDay_103 : decode cX4_passDay 103 = .ok (.iadd, 1) := by decide +kernel
theorem dX4_passDay_104 : decode cX4_passDay 104 = .ok (.putfield 42, 3) := by decide +kernel
theorem dX4_passDay_107 : decode cX4_passDay 107 = .ok (.aload_n 0, 1) := by decide +kernel
theorem dX4_passDay_108 : decode cX4_passDay 108 = .ok (.invokevirtual 74, 3) := by decide +kernel
theorem dX4_passDay_111 : decode cX4_passDay 111 = .ok (.return_, 1) := by decide +kernel
theorem dX4_cellByDraw_0 : decode cX4_cellByDraw 0 = .ok (.iconst 0, 1) := by decide +kernel
theorem dX4_cellByDraw_1 : decode cX4_cellByDraw 1 = .ok (.istore_n 2, 1) := by decide +kernel
theorem dX4_cellByDraw_2 : decode cX4_cellByDraw 2 = .ok (.iconst 0, 1) := by decide +kernel
theorem dX4_cellByDraw_3 : decode cX4_cellByDraw 3 = .ok (.istore_n 3, 1) := by decide +kernel
theorem dX4_cellByDraw_4 : decode cX4_cellByDraw 4 = .ok (.iload_n 3, 1) := by decide +kernel
theorem dX4_cellByDraw_5 : decode cX4_cellByDraw 5 = .ok (.iconst 5, 1) := by decide +kernel
theorem dX4_cellByDraw_6 : decode cX4_cellByDraw 6 = .ok (.if_icmp .ge 25, 3) := by decide +kernel
theorem dX4_cellByDraw_9 : decode cX4_cellByDraw 9 = .ok (.iload_n 2, 1) := by decide +kernel
theorem dX4_cellByDraw_10 : decode cX4_cellByDraw 10 = .ok (.aload_n 0, 1) := by decide +kernel
theorem dX4_cellByDraw_11 : decode cX4_cellByDraw 11 = .ok (.aload_n 0, 1) := by decide +kernel
theorem dX4_cellByDraw_12 : decode cX4_cellByDraw 12 = .ok (.getfield 18, 3) := by decide +kernel
theorem dX4_cellByDraw_15 : decode cX4_cellByDraw 15 = .ok (.iload_n 1, 1) := by decide +kernel
theorem dX4_cellByDraw_16 : decode cX4_cellByDraw 16 = .ok (.iload_n 3, 1) := by decide +kernel
theorem dX4_cellByDraw_17 : decode cX4_cellByDraw 17 = .ok (.invokevirtual 77, 3) := by decide +kernel
theorem dX4_cellByDraw_20 : decode cX4_cellByDraw 20 = .ok (.invokevirtual 81, 3) := by decide +kernel
theorem dX4_cellByDraw_23 : decode cX4_cellByDraw 23 = .ok (.iadd, 1) := by decide +kernel
theorem dX4_cellByDraw_24 : decode cX4_cellByDraw 24 = .ok (.istore_n 2, 1) := by decide +kernel
theorem dX4_cellByDraw_25 : decode cX4_cellByDraw 25 = .ok (.iinc 3 1, 3) := by decide +kernel
theorem dX4_cellByDraw_28 : decode cX4_cellByDraw 28 = .ok (.goto (-24), 3) := by decide +kernel
theorem dX4_cellByDraw_31 : decode cX4_cellByDraw 31 = .ok (.aload_n 0, 1) := by decide +kernel
theorem dX4_cellByDraw_32 : decode cX4_cellByDraw 32 = .ok (.iload_n 2, 1) := by decide +kernel
theorem dX4_cellByDraw_33 : decode cX4_cellByDraw 33 = .ok (.invokevirtual 84, 3) := by decide +kernel
theorem dX4_cellByDraw_36 : decode cX4_cellByDraw 36 = .ok (.istore_n 3, 1) := by decide +kernel
theorem dX4_cellByDraw_37 : decode cX4_cellByDraw 37 = .ok (.iconst 0, 1) := by decide +kernel
theorem dX4_cellByDraw_38 : decode cX4_cellByDraw 38 = .ok (.istore 4, 2) := by decide +kernel
theorem dX4_cellByDraw_40 : decode cX4_cellByDraw 40 = .ok (.iload 4, 2) := by decide +kernel
theorem dX4_cellByDraw_42 : decode cX4_cellByDraw 42 = .ok (.iconst 5, 1) := by decide +kernel
theorem dX4_cellByDraw_43 : decode cX4_cellByDraw 43 = .ok (.if_icmp .ge 37, 3) := by decide +kernel
theorem dX4_cellByDraw_46 : decode cX4_cellByDraw 46 = .ok (.aload_n 0, 1) := by decide +kernel
theorem dX4_cellByDraw_47 : decode cX4_cellByDraw 47 = .ok (.getfield 18, 3) := by decide +kernel
theorem dX4_cellByDraw_50 : decode cX4_cellByDraw 50 = .ok (.iload_n 1, 1) := by decide +kernel
theorem dX4_cellByDraw_51 : decode cX4_cellByDraw 51 = .ok (.iload 4, 2) := by decide +kernel
theorem dX4_cellByDraw_53 : decode cX4_cellByDraw 53 = .ok (.invokevirtual 77, 3) := by decide +kernel
theorem dX4_cellByDraw_56 : decode cX4_cellByDraw 56 = .ok (.istore 5, 2) := by decide +kernel
theorem dX4_cellByDraw_58 : decode cX4_cellByDraw 58 = .ok (.iload_n 3, 1) := by decide +kernel
theorem dX4_cellByDraw_59 : decode cX4_cellByDraw 59 = .ok (.aload_n 0, 1) := by decide +kernel
theorem dX4_cellByDraw_60 : decode cX4_cellByDraw 60 = .ok (.iload 5, 2) := by decide +kernel
theorem dX4_cellByDraw_62 : decode cX4_cellByDraw 62 = .ok (.invokevirtual 81, 3) := by decide +kernel
theorem dX4_cellByDraw_65 : decode cX4_cellByDraw 65 = .ok (.isub, 1) := by decide +kernel
theorem dX4_cellByDraw_66 : decode cX4_cellByDraw 66 = .ok (.istore_n 3, 1) := by decide +kernel
theorem dX4_cellByDraw_67 : decode cX4_cellByDraw 67 = .ok (.iload_n 3, 1) := by decide +kernel
theorem dX4_cellByDraw_68 : decode cX4_cellByDraw 68 = .ok (.ifCond .ge 6, 3) := by decide +kernel
theorem dX4_cellByDraw_71 : decode cX4_cellByDraw 71 = .ok (.iload 5, 2) := by decide +kernel
theorem dX4_cellByDraw_73 : decode cX4_cellByDraw 73 = .ok (.ireturn, 1) := by decide +kernel
theorem dX4_cellByDraw_74 : decode cX4_cellByDraw 74 = .ok (.iinc 4 1, 3) := by decide +kernel
theorem dX4_cellByDraw_77 : decode cX4_cellByDraw 77 = .ok (.goto (-37), 3) := by decide +kernel
theorem dX4_cellByDraw_80 : decode cX4_cellByDraw 80 = .ok (.iload_n 1, 1) := by decide +kernel
theorem dX4_cellByDraw_81 : decode cX4_cellByDraw 81 = .ok (.ireturn, 1) := by decide +kernel
theorem dX4_draw_0 : decode cX4_draw 0 = .ok (.aload_n 0, 1) := by decide +kernel
theorem dX4_draw_1 : decode cX4_draw 1 = .ok (.getfield 48, 3) := by decide +kernel
theorem dX4_draw_4 : decode cX4_draw 4 = .ok (.i2l, 1) := by decide +kernel
theorem dX4_draw_5 : decode cX4_draw 5 = .ok (.ldc2_w 87, 3) := by decide +kernel
theorem dX4_draw_8 : decode cX4_draw 8 = .ok (.lmul, 1) := by decide +kernel
theorem dX4_draw_9 : decode cX4_draw 9 = .ok (.ldc2_w 89, 3) := by decide +kernel
theorem dX4_draw_12 : decode cX4_draw 12 = .ok (.ladd, 1) := by decide +kernel
theorem dX4_draw_13 : decode cX4_draw 13 = .ok (.lstore_n 2, 1) := by decide +kernel
theorem dX4_draw_14 : decode cX4_draw 14 = .ok (.aload_n 0, 1) := by decide +kernel
theorem dX4_draw_15 : decode cX4_draw 15 = .ok (.lload_n 2, 1) := by decide +kernel
theorem dX4_draw_16 : decode cX4_draw 16 = .ok (.ldc2_w 91, 3) := by decide +kernel
theorem dX4_draw_19 : decode cX4_draw 19 = .ok (.land, 1) := by decide +kernel
theorem dX4_draw_20 : decode cX4_draw 20 = .ok (.l2i, 1) := by decide +kernel
theorem dX4_draw_21 : decode cX4_draw 21 = .ok (.putfield 48, 3) := by decide +kernel
theorem dX4_draw_24 : decode cX4_draw 24 = .ok (.iload_n 1, 1) := by decide +kernel
theorem dX4_draw_25 : decode cX4_draw 25 = .ok (.ifCond .le 15, 3) := by decide +kernel
theorem dX4_draw_28 : decode cX4_draw 28 = .ok (.aload_n 0, 1) := by decide +kernel
theorem dX4_draw_29 : decode cX4_draw 29 = .ok (.getfield 48, 3) := by decide +kernel
theorem dX4_draw_32 : decode cX4_draw 32 = .ok (.ldc 93, 2) := by decide +kernel
theorem dX4_draw_34 : decode cX4_draw 34 = .ok (.idiv, 1) := by decide +kernel
theorem dX4_draw_35 : decode cX4_draw 35 = .ok (.iload_n 1, 1) := by decide +kernel
theorem dX4_draw_36 : decode cX4_draw 36 = .ok (.irem, 1) := by decide +kernel
theorem dX4_draw_37 : decode cX4_draw 37 = .ok (.goto 4, 3) := by decide +kernel
theorem dX4_draw_40 : decode cX4_draw 40 = .ok (.iconst 0, 1) := by decide +kernel
theorem dX4_draw_41 : decode cX4_draw 41 = .ok (.ireturn, 1) := by decide +kernel
theorem dX4_eatAt_0 : decode cX4_eatAt 0 = .ok (.aload_n 0, 1) := by decide +kernel
theorem dX4_eatAt_1 : decode cX4_eatAt 1 = .ok (.getfield 18, 3) := by decide +kernel
theorem dX4_eatAt_4 : decode cX4_eatAt 4 = .ok (.iload_n 1, 1) := by decide +kernel
theorem dX4_eatAt_5 : decode cX4_eatAt 5 = .ok (.invokevirtual 51, 3) := by decide +kernel
theorem dX4_eatAt_8 : decode cX4_eatAt 8 = .ok (.ifCond .eq 22, 3) := by decide +kernel
theorem dX4_eatAt_11 : decode cX4_eatAt 11 = .ok (.aload_n 0, 1) := by decide +kernel
theorem dX4_eatAt_12 : decode cX4_eatAt 12 = .ok (.getfield 9, 3) := by decide +kernel
theorem dX4_eatAt_15 : decode cX4_eatAt 15 = .ok (.iload_n 1, 1) := by decide +kernel
theorem dX4_eatAt_16 : decode cX4_eatAt 16 = .ok (.iaload, 1) := by decide +kernel
theorem dX4_eatAt_17 : decode cX4_eatAt 17 = .ok (.ifCond .le 13, 3) := by decide +kernel
theorem dX4_eatAt_20 : decode cX4_eatAt 20 = .ok (.aload_n 0, 1) := by decide +kernel
theorem dX4_eatAt_21 : decode cX4_eatAt 21 = .ok (.getfield 9, 3) := by decide +kernel
theorem dX4_eatAt_24 : decode cX4_eatAt 24 = .ok (.iload_n 1, 1) := by decide +kernel
theorem dX4_eatAt_25 : decode cX4_eatAt 25 = .ok (.dup2, 1) := by decide +kernel
theorem dX4_eatAt_26 : decode cX4_eatAt 26 = .ok (.iaload, 1) := by decide +kernel
theorem dX4_eatAt_27 : decode cX4_eatAt 27 = .ok (.iconst 1, 1) := by decide +kernel
theorem dX4_eatAt_28 : decode cX4_eatAt 28 = .ok (.isub, 1) := by decide +kernel
theorem dX4_eatAt_29 : decode cX4_eatAt 29 = .ok (.iastore, 1) := by decide +kernel
theorem dX4_eatAt_30 : decode cX4_eatAt 30 = .ok (.return_, 1) := by decide +kernel
theorem dX4_growByNight_0 : decode cX4_growByNight 0 = .ok (.iconst 0, 1) := by decide +kernel
theorem dX4_growByNight_1 : decode cX4_growByNight 1 = .ok (.istore_n 1, 1) := by decide +kernel
theorem dX4_growByNight_2 : decode cX4_growByNight 2 = .ok (.iload_n 1, 1) := by decide +kernel
theorem dX4_growByNight_3 : decode cX4_growByNight 3 = .ok (.bipush 40, 2) := by decide +kernel
theorem dX4_growByNight_5 : decode cX4_growByNight 5 = .ok (.if_icmp .ge 34, 3) := by decide +kernel
theorem dX4_growByNight_8 : decode cX4_growByNight 8 = .ok (.aload_n 0, 1) := by decide +kernel
theorem dX4_growByNight_9 : decode cX4_growByNight 9 = .ok (.getfield 9, 3) := by decide +kernel
theorem dX4_growByNight_12 : decode cX4_growByNight 12 = .ok (.iload_n 1, 1) := by decide +kernel
theorem dX4_growByNight_13 : decode cX4_growByNight 13 = .ok (.iaload, 1) := by decide +kernel
theorem dX4_growByNight_14 : decode cX4_growByNight 14 = .ok (.aload_n 0, 1) := by decide +kernel
theorem dX4_growByNight_15 : decode cX4_growByNight 15 = .ok (.getfield 15, 3) := by decide +kernel
theorem dX4_growByNight_18 : decode cX4_growByNight 18 = .ok (.iload_n 1, 1) := by decide +kernel
theorem dX4_growByNight_19 : decode cX4_growByNight 19 = .ok (.iaload, 1) := by decide +kernel
theorem dX4_growByNight_20 : decode cX4_growByNight 20 = .ok (.if_icmp .ge 13, 3) := by decide +kernel
theorem dX4_growByNight_23 : decode cX4_growByNight 23 = .ok (.aload_n 0, 1) := by decide +kernel
theorem dX4_growByNight_24 : decode cX4_growByNight 24 = .ok (.getfield 9, 3) := by decide +kernel
theorem dX4_growByNight_27 : decode cX4_growByNight 27 = .ok (.iload_n 1, 1) := by decide +kernel
theorem dX4_growByNight_28 : decode cX4_growByNight 28 = .ok (.dup2, 1) := by decide +kernel
theorem dX4_growByNight_29 : decode cX4_growByNight 29 = .ok (.iaload, 1) := by decide +kernel
theorem dX4_growByNight_30 : decode cX4_growByNight 30 = .ok (.iconst 1, 1) := by decide +kernel
theorem dX4_growByNight_31 : decode cX4_growByNight 31 = .ok (.iadd, 1) := by decide +kernel
theorem dX4_growByNight_32 : decode cX4_growByNight 32 = .ok (.iastore, 1) := by decide +kernel
theorem dX4_growByNight_33 : decode cX4_growByNight 33 = .ok (.iinc 1 1, 3) := by decide +kernel
theorem dX4_growByNight_36 : decode cX4_growByNight 36 = .ok (.goto (-34), 3) := by decide +kernel
theorem dX4_growByNight_39 : decode cX4_growByNight 39 = .ok (.return_, 1) := by decide +kernel
theorem dX5_init_0 : decode cX5_init 0 = .ok (.aload_n 0, 1) := by decide +kernel
theorem dX5_init_1 : decode cX5_init 1 = .ok (.invokespecial 3, 3) := by decide +kernel
theorem dX5_init_4 : decode cX5_init 4 = .ok (.aload_n 0, 1) := by decide +kernel
theorem dX5_init_5 : decode cX5_init 5 = .ok (.new 9, 3) := by decide +kernel
theorem dX5_init_8 : decode cX5_init 8 = .ok (.dup, 1) := by decide +kernel
theorem dX5_init_9 : decode cX5_init 9 = .ok (.invokespecial 11, 3) := by decide +kernel
theorem dX5_init_12 : decode cX5_init 12 = .ok (.putfield 12, 3) := by decide +kernel
theorem dX5_init_15 : decode cX5_init 15 = .ok (.aload_n 0, 1) := by decide +kernel
theorem dX5_init_16 : decode cX5_init 16 = .ok (.bipush 40, 2) := by decide +kernel
theorem dX5_init_18 : decode cX5_init 18 = .ok (.newarray .boolean, 2) := by decide +kernel
theorem dX5_init_20 : decode cX5_init 20 = .ok (.putfield 18, 3) := by decide +kernel
theorem dX5_init_23 : decode cX5_init 23 = .ok (.aload_n 0, 1) := by decide +kernel
theorem dX5_init_24 : decode cX5_init 24 = .ok (.bipush 40, 2) := by decide +kernel
theorem dX5_init_26 : decode cX5_init 26 = .ok (.newarray .boolean, 2) := by decide +kernel
theorem dX5_init_28 : decode cX5_init 28 = .ok (.putfield 22, 3) := by decide +kernel
theorem dX5_init_31 : decode cX5_init 31 = .ok (.aload_n 0, 1) := by decide +kernel
theorem dX5_init_32 : decode cX5_init 32 = .ok (.aload_n 1, 1) := by decide +kernel
theorem dX5_init_33 : decode cX5_init 33 = .ok (.putfield 25, 3) := by decide +kernel
theorem dX5_init_36 : decode cX5_init 36 = .ok (.aload_n 0, 1) := by decide +kernel
theorem dX5_init_37 : decode cX5_init 37 = .ok (.iconst (-1), 1) := by decide +kernel
theorem dX5_init_38 : decode cX5_init 38 = .ok (.putfield 29, 3) := by decide +kernel
theorem dX5_init_41 : decode cX5_init 41 = .ok (.return_, 1) := by decide +kernel
theorem dX5_read_0 : decode cX5_read 0 = .ok (.aload_n 0, 1) := by decide +kernel
theorem dX5_read_1 : decode cX5_read 1 = .ok (.invokevirtual 33, 3) := by decide +kernel
theorem dX5_read_4 : decode cX5_read 4 = .ok (.aload_n 0, 1) := by decide +kernel
theorem dX5_read_5 : decode cX5_read 5 = .ok (.getfield 25, 3) := by decide +kernel
theorem dX5_read_8 : decode cX5_read 8 = .ok (.invokevirtual 36, 3) := by decide +kernel
theorem dX5_read_11 : decode cX5_read 11 = .ok (.aload_n 0, 1) := by decide +kernel
theorem dX5_read_12 : decode cX5_read 12 = .ok (.getfield 25, 3) := by decide +kernel
theorem dX5_read_15 : decode cX5_read 15 = .ok (.getfield 41, 3) := by decide +kernel
theorem dX5_read_18 : decode cX5_read 18 = .ok (.ifCond .eq 59, 3) := by decide +kernel
theorem dX5_read_21 : decode cX5_read 21 = .ok (.aload_n 0, 1) := by decide +kernel
theorem dX5_read_22 : decode cX5_read 22 = .ok (.invokevirtual 44, 3) := by decide +kernel
theorem dX5_read_25 : decode cX5_read 25 = .ok (.ifCond .eq 52, 3) := by decide +kernel
theorem dX5_read_28 : decode cX5_read 28 = .ok (.aload_n 0, 1) := by decide +kernel
theorem dX5_read_29 : decode cX5_read 29 = .ok (.getfield 25, 3) := by decide +kernel
theorem dX5_read_32 : decode cX5_read 32 = .ok (.invokevirtual 36, 3) := by decide +kernel
theorem dX5_read_35 : decode cX5_read 35 = .ok (.iconst 0, 1) := by decide +kernel
theorem dX5_read_36 : decode cX5_read 36 = .ok (.istore_n 1, 1) := by decide +kernel
theorem dX5_read_37 : decode cX5_read 37 = .ok (.iload_n 1, 1) := by decide +kernel
theorem dX5_read_38 : decode cX5_read 38 = .ok (.sipush 500, 3) := by decide +kernel
theorem dX5_read_41 : decode cX5_read 41 = .ok (.if_icmp .ge 36, 3) := by decide +kernel
theorem dX5_read_44 : decode cX5_read 44 = .ok (.aload_n 0, 1) := by decide +kernel
theorem dX5_read_45 : decode cX5_read 45 = .ok (.getfield 25, 3) := by decide +kernel
theorem dX5_read_48 : decode cX5_read 48 = .ok (.getfield 41, 3) := by decide +kernel
theorem dX5_read_51 : decode cX5_read 51 = .ok (.ifCond .eq 26, 3) := by decide +kernel
theorem dX5_read_54 : decode cX5_read 54 = .ok (.aload_n 0, 1) := by decide +kernel
theorem dX5_read_55 : decode cX5_read 55 = .ok (.invokevirtual 48, 3) := by decide +kernel
theorem dX5_read_58 : decode cX5_read 58 = .ok (.ifCond .ne 6, 3) := by decide +kernel
theorem dX5_read_61 : decode cX5_read 61 = .ok (.goto 16, 3) := by decide +kernel
theorem dX5_read_64 : decode cX5_read 64 = .ok (.aload_n 0, 1) := by decide +kernel
theorem dX5_read_65 : decode cX5_read 65 = .ok (.getfield 25, 3) := by decide +kernel
theorem dX5_read_68 : decode cX5_read 68 = .ok (.invokevirtual 36, 3) := by decide +kernel
theorem dX5_read_71 : decode cX5_read 71 = .ok (.iinc 1 1, 3) := by decide +kernel
theorem dX5_read_74 : decode cX5_read 74 = .ok (.goto (-37), 3) := by decide +kernel
theorem dX5_read_77 : decode cX5_read 77 = .ok (.aload_n 0, 1) := by decide +kernel
theorem dX5_read_78 : decode cX5_read 78 = .ok (.getfield 51, 3) := by decide +kernel
theorem dX5_read_81 : decode cX5_read 81 = .ok (.ifCond .ne 13, 3) := by decide +kernel
theorem dX5_read_84 : decode cX5_read 84 = .ok (.aload_n 0, 1) := by decide +kernel
theorem dX5_read_85 : decode cX5_read 85 = .ok (.getfield 12, 3) := by decide +kernel
theorem dX5_read_88 : decode cX5_read 88 = .ok (.getfield 54, 3) := by decide +kernel
theorem dX5_read_91 : decode cX5_read 91 = .ok (.goto 10, 3) := by decide +kernel
theorem dX5_read_94 : decode cX5_read 94 = .ok (.bipush (-10), 2) := by decide +kernel
theorem dX5_read_96 : decode cX5_read 96 = .ok (.aload_n 0, 1) := by decide +kernel
theorem dX5_read_97 : decode cX5_read 97 = .ok (.getfield 51, 3) := by decide +kernel
theorem dX5_read_100 : decode cX5_read 100 = .ok (.isub, 1) := by decide +kernel
theorem dX5_read_101 : decode cX5_read 101 = .ok (.ireturn, 1) := by decide +kernel
theorem dX5_begin_0 : decode cX5_begin 0 = .ok (.aload_n 0, 1) := by decide +kernel
theorem dX5_begin_1 : decode cX5_begin 1 = .ok (.getfield 12, 3) := by decide +kernel
theorem dX5_begin_4 : decode cX5_begin 4 = .ok (.invokevirtual 57, 3) := by decide +kernel
theorem dX5_begin_7 : decode cX5_begin 7 = .ok (.aload_n 0, 1) := by decide +kernel
theorem dX5_begin_8 : decode cX5_begin 8 = .ok (.iconst 0, 1) := by decide +kernel
theorem dX5_begin_9 : decode cX5_begin 9 = .ok (.putfield 60, 3) := by decide +kernel
theorem dX5_begin_12 : decode cX5_begin 12 = .ok (.aload_n 0, 1) := by decide +kernel
theorem dX5_begin_13 : decode cX5_begin 13 = .ok (.iconst 0, 1) := by decide +kernel
theorem dX5_begin_14 : decode cX5_begin 14 = .ok (.putfield 63, 3) := by decide +kernel
theorem dX5_begin_17 : decode cX5_begin 17 = .ok (.aload_n 0, 1) := by decide +kernel
theorem dX5_begin_18 : decode cX5_begin 18 = .ok (.iconst 0, 1) := by decide +kernel
theorem dX5_begin_19 : decode cX5_begin 19 = .ok (.putfield 66, 3) := by decide +kernel
theorem dX5_begin_22 : decode cX5_begin 22 = .ok (.aload_n 0, 1) := by decide +kernel
theorem dX5_begin_23 : decode cX5_begin 23 = .ok (.iconst 0, 1) := by decide +kernel
theorem dX5_begin_24 : decode cX5_begin 24 = .ok (.putfield 69, 3) := by decide +kernel
theorem dX5_begin_27 : decode cX5_begin 27 = .ok (.aload_n 0, 1) := by decide +kernel
theorem dX5_begin_28 : decode cX5_begin 28 = .ok (.iconst 0, 1) := by decide +kernel
theorem dX5_begin_29 : decode cX5_begin 29 = .ok (.putfield 73, 3) := by decide +kernel
theorem dX5_begin_32 : decode cX5_begin 32 = .ok (.iconst 0, 1) := by decide +kernel
theorem dX5_begin_33 : decode cX5_begin 33 = .ok (.istore_n 1, 1) := by decide +kernel
theorem dX5_begin_34 : decode cX5_begin 34 = .ok (.iload_n 1, 1) := by decide +kernel
theorem dX5_begin_35 : decode cX5_begin 35 = .ok (.bipush 40, 2) := by decide +kernel
theorem dX5_begin_37 : decode cX5_begin 37 = .ok (.if_icmp .ge 23, 3) := by decide +kernel
theorem dX5_begin_40 : decode cX5_begin 40 = .ok (.aload_n 0, 1) := by decide +kernel
theorem dX5_begin_41 : decode cX5_begin 41 = .ok (.getfield 18, 3) := by decide +kernel
theorem dX5_begin_44 : decode cX5_begin 44 = .ok (.iload_n 1, 1) := by decide +kernel
theorem dX5_begin_45 : decode cX5_begin 45 = .ok (.iconst 0, 1) := by decide +kernel
theorem dX5_begin_46 : decode cX5_begin 46 = .ok (.bastore, 1) := by decide +kernel
theorem dX5_begin_47 : decode cX5_begin 47 = .ok (.aload_n 0, 1) := by decide +kernel
theorem dX5_begin_48 : decode cX5_begin 48 = .ok (.getfield 22, 3) := by decide +kernel
theorem dX5_begin_51 : decode cX5_begin 51 = .ok (.iload_n 1, 1) := by decide +kernel
theorem dX5_begin_52 : decode cX5_begin 52 = .ok (.iconst 0, 1) := by decide +kernel
theorem dX5_begin_53 : decode cX5_begin 53 = .ok (.bastore, 1) := by decide +kernel
theorem dX5_begin_54 : decode cX5_begin 54 = .ok (.iinc 1 1, 3) := by decide +kernel
theorem dX5_begin_57 : decode cX5_begin 57 = .ok (.goto (-23), 3) := by decide +kernel
theorem dX5_begin_60 : decode cX5_begin 60 = .ok (.aload_n 0, 1) := by decide +kernel
theorem dX5_begin_61 : decode cX5_begin 61 = .ok (.getfield 25, 3) := by decide +kernel
theorem dX5_begin_64 : decode cX5_begin 64 = .ok (.invokevirtual 76, 3) := by decide +kernel
theorem dX5_begin_67 : decode cX5_begin 67 = .ok (.aload_n 0, 1) := by decide +kernel
theorem dX5_begin_68 : decode cX5_begin 68 = .ok (.iconst 0, 1) := by decide +kernel
theorem dX5_begin_69 : decode cX5_begin 69 = .ok (.putfield 51, 3) := by decide +kernel
theorem dX5_begin_72 : decode cX5_begin 72 = .ok (.aload_n 0, 1) := by decide +kernel
theorem dX5_begin_73 : decode cX5_begin 73 = .ok (.iconst (-1), 1) := by decide +kernel
theorem dX5_begin_74 : decode cX5_begin 74 = .ok (.putfield 29, 3) := by decide +kernel
theorem dX5_begin_77 : decode cX5_begin 77 = .ok (.return_, 1) := by decide +kernel
theorem dX5_fail_0 : decode cX5_fail 0 = .ok (.aload_n 0, 1) := by decide +kernel
theorem dX5_fail_1 : decode cX5_fail 1 = .ok (.iload_n 1, 1) := by decide +kernel
theorem dX5_fail_2 : decode cX5_fail 2 = .ok (.putfield 51, 3) := by decide +kernel
theorem dX5_fail_5 : decode cX5_fail 5 = .ok (.aload_n 0, 1) := by decide +kernel
theorem dX5_fail_6 : decode cX5_fail 6 = .ok (.aload_n 0, 1) := by decide +kernel
theorem dX5_fail_7 : decode cX5_fail 7 = .ok (.getfield 25, 3) := by decide +kernel
theorem dX5_fail_10 : decode cX5_fail 10 = .ok (.getfield 79, 3) := by decide +kernel
theorem dX5_fail_13 : decode cX5_fail 13 = .ok (.putfield 29, 3) := by decide +kernel
theorem dX5_fail_16 : decode cX5_fail 16 = .ok (.iconst 0, 1) := by decide +kernel
theorem dX5_fail_17 : decode cX5_fail 17 = .ok (.ireturn, 1) := by decide +kernel
theorem dX5_readNumber_0 : decode cX5_readNumber 0 = .ok (.aload_n 0, 1) := by decide +kernel
theorem dX5_readNumber_1 : decode cX5_readNumber 1 = .ok (.getfield 25, 3) := by decide +kernel
theorem dX5_readNumber_4 : decode cX5_readNumber 4 = .ok (.invokevirtual 36, 3) := by decide +kernel
theorem dX5_readNumber_7 : decode cX5_readNumber 7 = .ok (.aload_n 0, 1) := by decide +kernel
theorem dX5_readNumber_8 : decode cX5_readNumber 8 = .ok (.getfield 25, 3) := by decide +kernel
theorem dX5_readNumber_11 : decode cX5_readNumber 11 = .ok (.getfield 41, 3) := by decide +kernel
theorem dX5_readNumber_14 : decode cX5_readNumber 14 = .ok (.iconst 2, 1) := by decide +kernel
theorem dX5_readNumber_15 : decode cX5_readNumber 15 = .ok (.if_icmp .eq 11, 3) := by decide +kernel
theorem dX5_readNumber_18 : decode cX5_readNumber 18 = .ok (.aload_n 0, 1) := by decide +kernel
theorem dX5_readNumber_19 : decode cX5_readNumber 19 = .ok (.iconst 1, 1) := by decide +kernel
theorem dX5_readNumber_20 : decode cX5_readNumber 20 = .ok (.invokevirtual 82, 3) := by decide +kernel
theorem dX5_readNumber_23 : decode cX5_readNumber 23 = .ok (.pop, 1) := by decide +kernel
theorem dX5_readNumber_24 : decode cX5_readNumber 24 = .ok (.iconst (-1), 1) := by decide +kernel
theorem dX5_readNumber_25 : decode cX5_readNumber 25 = .ok (.ireturn, 1) := by decide +kernel
theorem dX5_readNumber_26 : decode cX5_readNumber 26 = .ok (.aload_n 0, 1) := by decide +kernel
theorem dX5_readNumber_27 : decode cX5_readNumber 27 = .ok (.getfield 25, 3) := by decide +kernel
theorem dX5_readNumber_30 : decode cX5_readNumber 30 = .ok (.invokevirtual 86, 3) := by decide +kernel
theorem dX5_readNumber_33 : decode cX5_readNumber 33 = .ok (.istore_n 3, 1) := by decide +kernel
theorem dX5_readNumber_34 : decode cX5_readNumber 34 = .ok (.iload_n 3, 1) := by decide +kernel
theorem dX5_readNumber_35 : decode cX5_readNumber 35 = .ok (.iload_n 1, 1) := by decide +kernel
theorem dX5_readNumber_36 : decode cX5_readNumber 36 = .ok (.if_icmp .lt 8, 3) := by decide +kernel
theorem dX5_readNumber_39 : decode cX5_readNumber 39 = .ok (.iload_n 3, 1) := by decide +kernel
theorem dX5_readNumber_40 : decode cX5_readNumber 40 = .ok (.iload_n 2, 1) := by decide +kernel
theorem dX5_readNumber_41 : decode cX5_readNumber 41 = .ok (.if_icmp .le 11, 3) := by decide +kernel
theorem dX5_readNumber_44 : decode cX5_readNumber 44 = .ok (.aload_n 0, 1) := by decide +kernel
theorem dX5_readNumber_45 : decode cX5_readNumber 45 = .ok (.iconst 2, 1) := by decide +kernel
theorem dX5_readNumber_46 : decode cX5_readNumber 46 = .ok (.invokevirtual 82, 3) := by decide +kernel
theorem dX5_readNumber_49 : decode cX5_readNumber 49 = .ok (.pop, 1) := by decide +kernel
theorem dX5_readNumber_50 : decode cX5_readNumber 50 = .ok (.iconst (-1), 1) := by decide +kernel
theorem dX5_readNumber_51 : decode cX5_readNumber 51 = .ok (.ireturn, 1) := by decide +kernel
theorem dX5_readNumber_52 : decode cX5_readNumber 52 = .ok (.iload_n 3, 1) := by decide +kernel
theorem dX5_readNumber_53 : decode cX5_readNumber 53 = .ok (.ireturn, 1) := by decide +kernel
theorem dX5_readStop_0 : decode cX5_readStop 0 = .ok (.aload_n 0, 1) := by decide +kernel
theorem dX5_readStop_1 : decode cX5_readStop 1 = .ok (.getfield 25, 3) := by decide +kernel
theorem dX5_readStop_4 : decode cX5_readStop 4 = .ok (.invokevirtual 36, 3) := by decide +kernel
theorem dX5_readStop_7 : decode cX5_readStop 7 = .ok (.aload_n 0, 1) := by decide +kernel
theorem dX5_readStop_8 : decode cX5_readStop 8 = .ok (.getfield 25, 3) := by decide +kernel
theorem dX5_readStop_11 : decode cX5_readStop 11 = .ok (.getfield 41, 3) := by decide +kernel
theorem dX5_readStop_14 : decode cX5_readStop 14 = .ok (.iconst 3, 1) := by decide +kernel
theorem dX5_readStop_15 : decode cX5_readStop 15 = .ok (.if_icmp .eq 11, 3) := by decide +kernel
theorem dX5_readStop_18 : decode cX5_readStop 18 = .ok (.aload_n 0, 1) := by decide +kernel
theorem dX5_readStop_19 : decode cX5_readStop 19 = .ok (.iconst 1, 1) := by decide +kernel
theorem dX5_readStop_20 : decode cX5_readStop 20 = .ok (.invokevirtual 82, 3) := by decide +kernel
theorem dX5_readStop_23 : decode cX5_readStop 23 = .ok (.ifCond .eq 7, 3) := by decide +kernel
theorem dX5_readStop_26 : decode cX5_readStop 26 = .ok (.iconst 1, 1) := by decide +kernel
theorem dX5_readStop_27 : decode cX5_readStop 27 = .ok (.goto 4, 3) := by decide +kernel
theorem dX5_readStop_30 : decode cX5_readStop 30 = .ok (.iconst 0, 1) := by decide +kernel
theorem dX5_readStop_31 : decode cX5_readStop 31 = .ok (.ireturn, 1) := by decide +kernel
theorem dX5_readCell_0 : decode cX5_readCell 0 = .ok (.aload_n 0, 1) := by decide +kernel
theorem dX5_readCell_1 : decode cX5_readCell 1 = .ok (.iconst 0, 1) := by decide +kernel
theorem dX5_readCell_2 : decode cX5_readCell 2 = .ok (.aload_n 0, 1) := by decide +kernel
theorem dX5_readCell_3 : decode cX5_readCell 3 = .ok (.getfield 12, 3) := by decide +kernel
theorem dX5_readCell_6 : decode cX5_readCell 6 = .ok (.getfield 90, 3) := by decide +kernel
theorem dX5_readCell_9 : decode cX5_readCell 9 = .ok (.iconst 1, 1) := by decide +kernel
theorem dX5_readCell_10 : decode cX5_readCell 10 = .ok (.isub, 1) := by decide +kernel
theorem dX5_readCell_11 : decode cX5_readCell 11 = .ok (.invokevirtual 93, 3) := by decide +kernel
theorem dX5_readCell_14 : decode cX5_readCell 14 = .ok (.istore_n 1, 1) := by decide +kernel
theorem dX5_readCell_15 : decode cX5_readCell 15 = .ok (.iload_n 1, 1) := by decide +kernel
theorem dX5_readCell_16 : decode cX5_readCell 16 = .ok (.ifCond .ge 5, 3) := by decide +kernel
theorem dX5_readCell_19 : decode cX5_readCell 19 = .ok (.iconst (-1), 1) := by decide +kernel
theorem dX5_readCell_20 : decode cX5_readCell 20 = .ok (.ireturn, 1) := by decide +kernel
theorem dX5_readCell_21 : decode cX5_readCell 21 = .ok (.aload_n 0, 1) := by decide +kernel
theorem dX5_readCell_22 : decode cX5_readCell 22 = .ok (.iconst 0, 1) := by decide +kernel
theorem dX5_readCell_23 : decode cX5_readCell 23 = .ok (.aload_n 0, 1) := by decide +kernel
theorem dX5_readCell_24 : decode cX5_readCell 24 = .ok (.getfield 12, 3) := by decide +kernel
theorem dX5_readCell_27 : decode cX5_readCell 27 = .ok (.getfield 97, 3) := by decide +kernel
theorem dX5_readCell_30 : decode cX5_readCell 30 = .ok (.iconst 1, 1) := by decide +kernel
theorem dX5_readCell_31 : decode cX5_readCell 31 = .ok (.isub, 1) := by decide +kernel
theorem dX5_readCell_32 : decode cX5_readCell 32 = .ok (.invokevirtual 93, 3) := by decide +kernel
theorem dX5_readCell_35 : decode cX5_readCell 35 = .ok (.istore_n 2, 1) := by decide +kernel
theorem dX5_readCell_36 : decode cX5_readCell 36 = .ok (.iload_n 2, 1) := by decide +kernel
theorem dX5_readCell_37 : decode cX5_readCell 37 = .ok (.ifCond .ge 5, 3) := by decide +kernel
theorem dX5_readCell_40 : decode cX5_readCell 40 = .ok (.iconst (-1), 1) := by decide +kernel
theorem dX5_readCell_41 : decode cX5_readCell 41 = .ok (.ireturn, 1) := by decide +kernel
theorem dX5_readCell_42 : decode cX5_readCell 42 = .ok (.aload_n 0, 1) := by decide +kernel
theorem dX5_readCell_43 : decode cX5_readCell 43 = .ok (.getfield 12, 3) := by decide +kernel
theorem dX5_readCell_46 : decode cX5_readCell 46 = .ok (.iload_n 1, 1) := by decide +kernel
theorem dX5_readCell_47 : decode cX5_readCell 47 = .ok (.iload_n 2, 1) := by decide +kernel
theorem dX5_readCell_48 : decode cX5_readCell 48 = .ok (.invokevirtual 100, 3) := by decide +kernel
theorem dX5_readCell_51 : decode cX5_readCell 51 = .ok (.ireturn, 1) := by decide +kernel
theorem dX5_readSize_0 : decode cX5_readSize 0 = .ok (.aload_n 0, 1) := by decide +kernel
theorem dX5_readSize_1 : decode cX5_readSize 1 = .ok (.getfield 25, 3) := by decide +kernel
theorem dX5_readSize_4 : decode cX5_readSize 4 = .ok (.ldc 103, 2) := by decide +kernel
theorem dX5_readSize_6 : decode cX5_readSize 6 = .ok (.invokevirtual 105, 3) := by decide +kernel
theorem dX5_readSize_9 : decode cX5_readSize 9 = .ok (.ifCond .ne 9, 3) := by decide +kernel
theorem dX5_readSize_12 : decode cX5_readSize 12 = .ok (.aload_n 0, 1) := by decide +kernel
theorem dX5_readSize_13 : decode cX5_readSize 13 = .ok (.iconst 1, 1) := by decide +kernel
theorem dX5_readSize_14 : decode cX5_readSize 14 = .ok (.invokevirtual 82, 3) := by decide +kernel
theorem dX5_readSize_17 : decode cX5_readSize 17 = .ok (.ireturn, 1) := by decide +kernel
theorem dX5_readSize_18 : decode cX5_readSize 18 = .ok (.aload_n 0, 1) := by decide +kernel
theorem dX5_readSize_19 : decode cX5_readSize 19 = .ok (.iconst 1, 1) := by decide +kernel
theorem dX5_readSize_20 : decode cX5_readSize 20 = .ok (.bipush 9, 2) := by decide +kernel
theorem dX5_readSize_22 : decode cX5_readSize 22 = .ok (.invokevirtual 93, 3) := by decide +kernel
theorem dX5_readSize_25 : decode cX5_readSize 25 = .ok (.istore_n 1, 1) := by decide +kernel
theorem dX5_readSize_26 : decode cX5_readSize 26 = .ok (.iload_n 1, 1) := by decide +kernel
theorem dX5_readSize_27 : decode cX5_readSize 27 = .ok (.ifCond .ge 5, 3) := by decide +kernel
theorem dX5_readSize_30 : decode cX5_readSize 30 = .ok (.iconst 0, 1) := by decide +kernel
theorem dX5_readSize_31 : decode cX5_readSize 31 = .ok (.ireturn, 1) := by decide +kernel
theorem dX5_readSize_32 : decode cX5_readSize 32 = .ok (.aload_n 0, 1) := by decide +kernel
theorem dX5_readSize_33 : decode cX5_readSize 33 = .ok (.iconst 1, 1) := by decide +kernel
theorem dX5_readSize_34 : decode cX5_readSize 34 = .ok (.bipush 9, 2) := by decide +kernel
theorem dX5_readSize_36 : decode cX5_readSize 36 = .ok (.invokevirtual 93, 3) := by decide +kernel
theorem dX5_readSize_39 : decode cX5_readSize 39 = .ok (.istore_n 2, 1) := by decide +kernel
theorem dX5_readSize_40 : decode cX5_readSize 40 = .ok (.iload_n 2, 1) := by decide +kernel
theorem dX5_readSize_41 : decode cX5_readSize 41 = .ok (.ifCond .ge 5, 3) := by decide +kernel
theorem dX5_readSize_44 : decode cX5_readSize 44 = .ok (.iconst 0, 1) := by decide +kernel
theorem dX5_readSize_45 : decode cX5_readSize 45 = .ok (.ireturn, 1) := by decide +kernel
theorem dX5_readSize_46 : decode cX5_readSize 46 = .ok (.iload_n 1, 1) := by decide +kernel
theorem dX5_readSize_47 : decode cX5_readSize 47 = .ok (.iload_n 2, 1) := by decide +kernel
theorem dX5_readSize_48 : decode cX5_readSize 48 = .ok (.imul, 1) := by decide +kernel
theorem dX5_readSize_49 : decode cX5_readSize 49 = .ok (.bipush 40, 2) := by decide +kernel
theorem dX5_readSize_51 : decode cX5_readSize 51 = .ok (.if_icmp .le 9, 3) := by decide +kernel
theorem dX5_readSize_54 : decode cX5_readSize 54 = .ok (.aload_n 0, 1) := by decide +kernel
theorem dX5_readSize_55 : decode cX5_readSize 55 = .ok (.iconst 2, 1) := by decide +kernel
theorem dX5_readSize_56 : decode cX5_readSize 56 = .ok (.invokevirtual 82, 3) := by decide +kernel
theorem dX5_readSize_59 : decode cX5_readSize 59 = .ok (.ireturn, 1) := by decide +kernel
theorem dX5_readSize_60 : decode cX5_readSize 60 = .ok (.aload_n 0, 1) := by decide +kernel
theorem dX5_readSize_61 : decode cX5_readSize 61 = .ok (.getfield 12, 3) := by decide +kernel
theorem dX5_readSize_64 : decode cX5_readSize 64 = .ok (.iload_n 1, 1) := by decide +kernel
theorem dX5_readSize_65 : decode cX5_readSize 65 = .ok (.iload_n 2, 1) := by decide +kernel
theorem dX5_readSize_66 : decode cX5_readSize 66 = .ok (.invokevirtual 109, 3) := by decide +kernel
theorem dX5_readSize_69 : decode cX5_readSize 69 = .ok (.aload_n 0, 1) := by decide +kernel
theorem dX5_readSize_70 : decode cX5_readSize 70 = .ok (.invokevirtual 113, 3) := by decide +kernel
theorem dX5_readSize_73 : decode cX5_readSize 73 = .ok (.ireturn, 1) := by decide +kernel
theorem dX5_readEntry_0 : decode cX5_readEntry 0 = .ok (.aload_n 0, 1) := by decide +kernel
theorem dX5_readEntry_1 : decode cX5_readEntry 1 = .ok (.getfield 25, 3) := by decide +kernel
theorem dX5_readEntry_4 : decode cX5_readEntry 4 = .ok (.ldc 116, 2) := by decide +kernel
theorem dX5_readEntry_6 : decode cX5_readEntry 6 = .ok (.invokevirtual 105, 3) := by decide +kernel
theorem dX5_readEntry_9 : decode cX5_readEntry 9 = .ok (.ifCond .eq 48, 3) := by decide +kernel
theorem dX5_readEntry_12 : decode cX5_readEntry 12 = .ok (.aload_n 0, 1) := by decide +kernel
theorem dX5_readEntry_13 : decode cX5_readEntry 13 = .ok (.dup, 1) := by decide +kernel
theorem dX5_readEntry_14 : decode cX5_readEntry 14 = .ok (.getfield 60, 3) := by decide +kernel
theorem dX5_readEntry_17 : decode cX5_readEntry 17 = .ok (.iconst 1, 1) := by decide +kernel
theorem dX5_readEntry_18 : decode cX5_readEntry 18 = .ok (.iadd, 1) := by decide +kernel
theorem dX5_readEntry_19 : decode cX5_readEntry 19 = .ok (.putfield 60, 3) := by decide +kernel
theorem dX5_readEntry_22 : decode cX5_readEntry 22 = .ok (.aload_n 0, 1) := by decide +kernel
theorem dX5_readEntry_23 : decode cX5_readEntry 23 = .ok (.getfield 60, 3) := by decide +kernel
theorem dX5_readEntry_26 : decode cX5_readEntry 26 = .ok (.bipush 20, 2) := by decide +kernel
theorem dX5_readEntry_28 : decode cX5_readEntry 28 = .ok (.if_icmp .le 11, 3) := by decide +kernel
theorem dX5_readEntry_31 : decode cX5_readEntry 31 = .ok (.aload_n 0, 1) := by decide +kernel
theorem dX5_readEntry_32 : decode cX5_readEntry 32 = .ok (.iconst 3, 1) := by decide +kernel
theorem dX5_readEntry_33 : decode cX5_readEntry 33 = .ok (.invokevirtual 82, 3) := by decide +kernel
theorem dX5_readEntry_36 : decode cX5_readEntry 36 = .ok (.goto 20, 3) := by decide +kernel
theorem dX5_readEntry_39 : decode cX5_readEntry 39 = .ok (.aload_n 0, 1) := by decide +kernel
theorem dX5_readEntry_40 : decode cX5_readEntry 40 = .ok (.aload_n 0, 1) := by decide +kernel
theorem dX5_readEntry_41 : decode cX5_readEntry 41 = .ok (.getfield 18, 3) := by decide +kernel
theorem dX5_readEntry_44 : decode cX5_readEntry 44 = .ok (.aload_n 0, 1) := by decide +kernel
theorem dX5_readEntry_45 : decode cX5_readEntry 45 = .ok (.getfield 12, 3) := by decide +kernel
theorem dX5_readEntry_48 : decode cX5_readEntry 48 = .ok (.getfield 118, 3) := by decide +kernel
theorem dX5_readEntry_51 : decode cX5_readEntry 51 = .ok (.bipush 9, 2) := by decide +kernel
theorem dX5_readEntry_53 : decode cX5_readEntry 53 = .ok (.invokevirtual 121, 3) := by decide +kernel
theorem dX5_readEntry_56 : decode cX5_readEntry 56 = .ok (.ireturn, 1) := by decide +kernel
theorem dX5_readEntry_57 : decode cX5_readEntry 57 = .ok (.aload_n 0, 1) := by decide +kernel
theorem dX5_readEntry_58 : decode cX5_readEntry 58 = .ok (.getfield 25, 3) := by decide +kernel
theorem dX5_readEntry_61 : decode cX5_readEntry 61 = .ok (.ldc 125, 2) := by decide +kernel
theorem dX5_readEntry_63 : decode cX5_readEntry 63 = .ok (.invokevirtual 105, 3) := by decide +kernel
theorem dX5_readEntry_66 : decode cX5_readEntry 66 = .ok (.ifCond .eq 48, 3) := by decide +kernel
theorem dX5_readEntry_69 : decode cX5_readEntry 69 = .ok (.aload_n 0, 1) := by decide +kernel
theorem dX5_readEntry_70 : decode cX5_readEntry 70 = .ok (.dup, 1) := by decide +kernel
theorem dX5_readEntry_71 : decode cX5_readEntry 71 = .ok (.getfield 63, 3) := by decide +kernel
theorem dX5_readEntry_74 : decode cX5_readEntry 74 = .ok (.iconst 1, 1) := by decide +kernel
theorem dX5_readEntry_75 : decode cX5_readEntry 75 = .ok (.iadd, 1) := by decide +kernel
theorem dX5_readEntry_76 : decode cX5_readEntry 76 = .ok (.putfield 63, 3) := by decide +kernel
theorem dX5_readEntry_79 : decode cX5_readEntry 79 = .ok (.aload_n 0, 1) := by decide +kernel
theorem dX5_readEntry_80 : decode cX5_readEntry 80 = .ok (.getfield 63, 3) := by decide +kernel
theorem dX5_readEntry_83 : decode cX5_readEntry 83 = .ok (.bipush 20, 2) := by decide +kernel
theorem dX5_readEntry_85 : decode cX5_readEntry 85 = .ok (.if_icmp .le 11, 3) := by decide +kernel
theorem dX5_readEntry_88 : decode cX5_readEntry 88 = .ok (.aload_n 0, 1) := by decide +kernel
theorem dX5_readEntry_89 : decode cX5_readEntry 89 = .ok (.iconst 3, 1) := by decide +kernel
theorem dX5_readEntry_90 : decode cX5_readEntry 90 = .ok (.invokevirtual 82, 3) := by decide +kernel
theorem dX5_readEntry_93 : decode cX5_readEntry 93 = .ok (.goto 20, 3) := by decide +kernel
theorem dX5_readEntry_96 : decode cX5_readEntry 96 = .ok (.aload_n 0, 1) := by decide +kernel
theorem dX5_readEntry_97 : decode cX5_readEntry 97 = .ok (.aload_n 0, 1) := by decide +kernel
theorem dX5_readEntry_98 : decode cX5_readEntry 98 = .ok (.getfield 22, 3) := by decide +kernel
theorem dX5_readEntry_101 : decode cX5_readEntry 101 = .ok (.aload_n 0, 1) := by decide +kernel
theorem dX5_readEntry_102 : decode cX5_readEntry 102 = .ok (.getfield 12, 3) := by decide +kernel
theorem dX5_readEntry_105 : decode cX5_readEntry 105 = .ok (.getfield 127, 3) := by decide +kernel
theorem dX5_readEntry_108 : decode cX5_readEntry 108 = .ok (.bipush 99, 2) := by decide +kernel
theorem dX5_readEntry_110 : decode cX5_readEntry 110 = .ok (.invokevirtual 121, 3) := by decide +kernel
theorem dX5_readEntry_113 : decode cX5_readEntry 113 = .ok (.ireturn, 1) := by decide +kernel
theorem dX5_readEntry_114 : decode cX5_readEntry 114 = .ok (.aload_n 0, 1) := by decide +kernel
theorem dX5_readEntry_115 : decode cX5_readEntry 115 = .ok (.getfield 25, 3) := by decide +kernel
theorem dX5_readEntry_118 : decode cX5_readEntry 118 = .ok (.ldc 129, 2) := by decide +kernel
theorem dX5_readEntry_120 : decode cX5_readEntry 120 = .ok (.invokevirtual 105, 3) := by decide +kernel
theorem dX5_readEntry_123 : decode cX5_readEntry 123 = .ok (.ifCond .eq 35, 3) := by decide +kernel
theorem dX5_readEntry_126 : decode cX5_readEntry 126 = .ok (.aload_n 0, 1) := by decide +kernel
theorem dX5_readEntry_127 : decode cX5_readEntry 127 = .ok (.dup, 1) := by decide +kernel
theorem dX5_readEntry_128 : decode cX5_readEntry 128 = .ok (.getfield 66, 3) := by decide +kernel
theorem dX5_readEntry_131 : decode cX5_readEntry 131 = .ok (.iconst 1, 1) := by decide +kernel
theorem dX5_readEntry_132 : decode cX5_readEntry 132 = .ok (.iadd, 1) := by decide +kernel
theorem dX5_readEntry_133 : decode cX5_readEntry 133 = .ok (.putfield 66, 3) := by decide +kernel
theorem dX5_readEntry_136 : decode cX5_readEntry 136 = .ok (.aload_n 0, 1) := by decide +kernel
theorem dX5_readEntry_137 : decode cX5_readEntry 137 = .ok (.getfield 66, 3) := by decide +kernel
theorem dX5_readEntry_140 : decode cX5_readEntry 140 = .ok (.bipush 15, 2) := by decide +kernel
theorem dX5_readEntry_142 : decode cX5_readEntry 142 = .ok (.if_icmp .le 11, 3) := by decide +kernel
theorem dX5_readEntry_145 : decode cX5_readEntry 145 = .ok (.aload_n 0, 1) := by decide +kernel
theorem dX5_readEntry_146 : decode cX5_readEntry 146 = .ok (.iconst 3, 1) := by decide +kernel
theorem dX5_readEntry_147 : decode cX5_readEntry 147 = .ok (.invokevirtual 82, 3) := by decide +kernel
theorem dX5_readEntry_150 : decode cX5_readEntry 150 = .ok (.goto 7, 3) := by decide +kernel
theorem dX5_readEntry_153 : decode cX5_readEntry 153 = .ok (.aload_n 0, 1) := by decide +kernel
theorem dX5_readEntry_154 : decode cX5_readEntry 154 = .ok (.invokevirtual 131, 3) := by decide +kernel
theorem dX5_readEntry_157 : decode cX5_readEntry 157 = .ok (.ireturn, 1) := by decide +kernel
theorem dX5_readEntry_158 : decode cX5_readEntry 158 = .ok (.aload_n 0, 1) := by decide +kernel
theorem dX5_readEntry_159 : decode cX5_readEntry 159 = .ok (.getfield 25, 3) := by decide +kernel
theorem dX5_readEntry_162 : decode cX5_readEntry 162 = .ok (.ldc 134, 2) := by decide +kernel
theorem dX5_readEntry_164 : decode cX5_readEntry 164 = .ok (.invokevirtual 105, 3) := by decide +kernel
theorem dX5_readEntry_167 : decode cX5_readEntry 167 = .ok (.ifCond .eq 23, 3) := by decide +kernel
theorem dX5_readEntry_170 : decode cX5_readEntry 170 = .ok (.aload_n 0, 1) := by decide +kernel
theorem dX5_readEntry_171 : decode cX5_readEntry 171 = .ok (.getfield 69, 3) := by decide +kernel
theorem dX5_readEntry_174 : decode cX5_readEntry 174 = .ok (.ifCond .eq 11, 3) := by decide +kernel
theorem dX5_readEntry_177 : decode cX5_readEntry 177 = .ok (.aload_n 0, 1) := by decide +kernel
theorem dX5_readEntry_178 : decode cX5_readEntry 178 = .ok (.iconst 3, 1) := by decide +kernel
theorem dX5_readEntry_179 : decode cX5_readEntry 179 = .ok (.invokevirtual 82, 3) := by decide +kernel
theorem dX5_readEntry_182 : decode cX5_readEntry 182 = .ok (.goto 7, 3) := by decide +kernel
theorem dX5_readEntry_185 : decode cX5_readEntry 185 = .ok (.aload_n 0, 1) := by decide +kernel
theorem dX5_readEntry_186 : decode cX5_readEntry 186 = .ok (.invokevirtual 136, 3) := by decide +kernel
theorem dX5_readEntry_189 : decode cX5_readEntry 189 = .ok (.ireturn, 1) := by decide +kernel
theorem dX5_readEntry_190 : decode cX5_readEntry 190 = .ok (.aload_n 0, 1) := by decide +kernel
theorem dX5_readEntry_191 : decode cX5_readEntry 191 = .ok (.getfield 25, 3) := by decide +kernel
theorem dX5_readEntry_194 : decode cX5_readEntry 194 = .ok (.ldc 139, 2) := by decide +kernel
theorem dX5_readEntry_196 : decode cX5_readEntry 196 = .ok (.invokevirtual 105, 3) := by decide +kernel
theorem dX5_readEntry_199 : decode cX5_readEntry 199 = .ok (.ifCond .eq 23, 3) := by decide +kernel
theorem dX5_readEntry_202 : decode cX5_readEntry 202 = .ok (.aload_n 0, 1) := by decide +kernel
theorem dX5_readEntry_203 : decode cX5_readEntry 203 = .ok (.getfield 73, 3) := by decide +kernel
theorem dX5_readEntry_206 : decode cX5_readEntry 206 = .ok (.ifCond .eq 11, 3) := by decide +kernel
theorem dX5_readEntry_209 : decode cX5_readEntry 209 = .ok (.aload_n 0, 1) := by decide +kernel
theorem dX5_readEntry_210 : decode cX5_readEntry 210 = .ok (.iconst 3, 1) := by decide +kernel
theorem dX5_readEntry_211 : decode cX5_readEntry 211 = .ok (.invokevirtual 82, 3) := by decide +kernel
theorem dX5_readEntry_214 : decode cX5_readEntry 214 = .ok (.goto 7, 3) := by decide +kernel
theorem dX5_readEntry_217 : decode cX5_readEntry 217 = .ok (.aload_n 0, 1) := by decide +kernel
theorem dX5_readEntry_218 : decode cX5_readEntry 218 = .ok (.invokevirtual 141, 3) := by decide +kernel
theorem dX5_readEntry_221 : decode cX5_readEntry 221 = .ok (.ireturn, 1) := by decide +kernel
theorem dX5_readEntry_222 : decode cX5_readEntry 222 = .ok (.aload_n 0, 1) := by decide +kernel
theorem dX5_readEntry_223 : decode cX5_readEntry 223 = .ok (.aload_n 0, 1) := by decide +kernel
theorem dX5_readEntry_224 : decode cX5_readEntry 224 = .ok (.getfield 25, 3) := by decide +kernel
theorem dX5_readEntry_227 : decode cX5_readEntry 227 = .ok (.ldc 103, 2) := by decide +kernel
theorem dX5_readEntry_229 : decode cX5_readEntry 229 = .ok (.invokevirtual 105, 3) := by decide +kernel
theorem dX5_readEntry_232 : decode cX5_readEntry 232 = .ok (.ifCond .eq 7, 3) := by decide +kernel
theorem dX5_readEntry_235 : decode cX5_readEntry 235 = .ok (.iconst 3, 1) := by decide +kernel
theorem dX5_readEntry_236 : decode cX5_readEntry 236 = .ok (.goto 4, 3) := by decide +kernel
theorem dX5_readEntry_239 : decode cX5_readEntry 239 = .ok (.iconst 1, 1) := by decide +kernel
theorem dX5_readEntry_240 : decode cX5_readEntry 240 = .ok (.invokevirtual 82, 3) := by decide +kernel
theorem dX5_readEntry_243 : decode cX5_readEntry 243 = .ok (.ireturn, 1) := by decide +kernel
theorem dX5_readValue_0 : decode cX5_readValue 0 = .ok (.aload_n 0, 1) := by decide +kernel
theorem dX5_readValue_1 : decode cX5_readValue 1 = .ok (.invokevirtual 144, 3) := by decide +kernel
theorem dX5_readValue_4 : decode cX5_readValue 4 = .ok (.istore 4, 2) := by decide +kernel
theorem dX5_readValue_6 : decode cX5_readValue 6 = .ok (.aload_n 0, 1) := by decide +kernel
theorem dX5_readValue_7 : decode cX5_readValue 7 = .ok (.getfield 12, 3) := by decide +kernel
theorem dX5_readValue_10 : decode cX5_readValue 10 = .ok (.iload 4, 2) := by decide +kernel
theorem dX5_readValue_12 : decode cX5_readValue 12 = .ok (.invokevirtual 147, 3) := by decide +kernel
theorem dX5_readValue_15 : decode cX5_readValue 15 = .ok (.ifCond .eq 17, 3) := by decide +kernel
theorem dX5_readValue_18 : decode cX5_readValue 18 = .ok (.iload 4, 2) := by decide +kernel
theorem dX5_readValue_20 : decode cX5_readValue 20 = .ok (.aload_n 1, 1) := by decide +kernel
theorem dX5_readValue_21 : decode cX5_readValue 21 = .ok (.arraylength, 1) := by decide +kernel
theorem dX5_readValue_22 : decode cX5_readValue 22 = .ok (.if_icmp .ge 10, 3) := by decide +kernel
theorem dX5_readValue_25 : decode cX5_readValue 25 = .ok (.iload 4, 2) := by decide +kernel
theorem dX5_readValue_27 : decode cX5_readValue 27 = .ok (.aload_n 2, 1) := by decide +kernel
theorem dX5_readValue_28 : decode cX5_readValue 28 = .ok (.arraylength, 1) := by decide +kernel
theorem dX5_readValue_29 : decode cX5_readValue 29 = .ok (.if_icmp .lt 5, 3) := by decide +kernel
theorem dX5_readValue_32 : decode cX5_readValue 32 = .ok (.iconst 0, 1) := by decide +kernel
theorem dX5_readValue_33 : decode cX5_readValue 33 = .ok (.ireturn, 1) := by decide +kernel
theorem dX5_readValue_34 : decode cX5_readValue 34 = .ok (.aload_n 1, 1) := by decide +kernel
theorem dX5_readValue_35 : decode cX5_readValue 35 = .ok (.iload 4, 2) := by decide +kernel
theorem dX5_readValue_37 : decode cX5_readValue 37 = .ok (.baload, 1) := by decide +kernel
theorem dX5_readValue_38 : decode cX5_readValue 38 = .ok (.ifCond .eq 9, 3) := by decide +kernel
theorem dX5_readValue_41 : decode cX5_readValue 41 = .ok (.aload_n 0, 1) := by decide +kernel
theorem dX5_readValue_42 : decode cX5_readValue 42 = .ok (.iconst 4, 1) := by decide +kernel
theorem dX5_readValue_43 : decode cX5_readValue 43 = .ok (.invokevirtual 82, 3) := by decide +kernel
theorem dX5_readValue_46 : decode cX5_readValue 46 = .ok (.ireturn, 1) := by decide +kernel
theorem dX5_readValue_47 : decode cX5_readValue 47 = .ok (.aload_n 1, 1) := by decide +kernel
theorem dX5_readValue_48 : decode cX5_readValue 48 = .ok (.iload 4, 2) := by decide +kernel
theorem dX5_readValue_50 : decode cX5_readValue 50 = .ok (.iconst 1, 1) := by decide +kernel
theorem dX5_readValue_51 : decode cX5_readValue 51 = .ok (.bastore, 1) := by decide +kernel
theorem dX5_readValue_52 : decode cX5_readValue 52 = .ok (.aload_n 0, 1) := by decide +kernel
theorem dX5_readValue_53 : decode cX5_readValue 53 = .ok (.iconst 0, 1) := by decide +kernel
theorem dX5_readValue_54 : decode cX5_readValue 54 = .ok (.iload_n 3, 1) := by decide +kernel
theorem dX5_readValue_55 : decode cX5_readValue 55 = .ok (.invokevirtual 93, 3) := by decide +kernel
theorem dX5_readValue_58 : decode cX5_readValue 58 = .ok (.istore 5, 2) := by decide +kernel
theorem dX5_readValue_60 : decode cX5_readValue 60 = .ok (.iload 5, 2) := by decide +kernel
theorem dX5_readValue_62 : decode cX5_readValue 62 = .ok (.ifCond .ge 5, 3) := by decide +kernel
theorem dX5_readValue_65 : decode cX5_readValue 65 = .ok (.iconst 0, 1) := by decide +kernel
theorem dX5_readValue_66 : decode cX5_readValue 66 = .ok (.ireturn, 1) := by decide +kernel
theorem dX5_readValue_67 : decode cX5_readValue 67 = .ok (.aload_n 2, 1) := by decide +kernel
theorem dX5_readValue_68 : decode cX5_readValue 68 = .ok (.iload 4, 2) := by decide +kernel
theorem dX5_readValue_70 : decode cX5_readValue 70 = .ok (.iload 5, 2) := by decide +kernel
theorem dX5_readValue_72 : decode cX5_readValue 72 = .ok (.iastore, 1) := by decide +kernel
theorem dX5_readValue_73 : decode cX5_readValue 73 = .ok (.aload_n 0, 1) := by decide +kernel
theorem dX5_readValue_74 : decode cX5_readValue 74 = .ok (.invokevirtual 113, 3) := by decide +kernel
theorem dX5_readValue_77 : decode cX5_readValue 77 = .ok (.ireturn, 1) := by decide +kernel
theorem dX5_readThing_0 : decode cX5_readThing 0 = .ok (.aload_n 0, 1) := by decide +kernel
theorem dX5_readThing_1 : decode cX5_readThing 1 = .ok (.getfield 25, 3) := by decide +kernel
theorem dX5_readThing_4 : decode cX5_readThing 4 = .ok (.invokevirtual 36, 3) := by decide +kernel
theorem dX5_readThing_7 : decode cX5_readThing 7 = .ok (.aload_n 0, 1) := by decide +kernel
theorem dX5_readThing_8 : decode cX5_readThing 8 = .ok (.invokevirtual 150, 3) := by decide +kernel
theorem dX5_readThing_11 : decode cX5_readThing 11 = .ok (.istore_n 1, 1) := by decide +kernel
theorem dX5_readThing_12 : decode cX5_readThing 12 = .ok (.iload_n 1, 1) := by decide +kernel
theorem dX5_readThing_13 : decode cX5_readThing 13 = .ok (.ifCond .ne 9, 3) := by decide +kernel
theorem dX5_readThing_16 : decode cX5_readThing 16 = .ok (.aload_n 0, 1) := by decide +kernel
theorem dX5_readThing_17 : decode cX5_readThing 17 = .ok (.iconst 1, 1) := by decide +kernel
theorem dX5_readThing_18 : decode cX5_readThing 18 = .ok (.invokevirtual 82, 3) := by decide +kernel
theorem dX5_readThing_21 : decode cX5_readThing 21 = .ok (.ireturn, 1) := by decide +kernel
theorem dX5_readThing_22 : decode cX5_readThing 22 = .ok (.aload_n 0, 1) := by decide +kernel
theorem dX5_readThing_23 : decode cX5_readThing 23 = .ok (.invokevirtual 144, 3) := by decide +kernel
theorem dX5_readThing_26 : decode cX5_readThing 26 = .ok (.istore_n 2, 1) := by decide +kernel
theorem dX5_readThing_27 : decode cX5_readThing 27 = .ok (.aload_n 0, 1) := by decide +kernel
theorem dX5_readThing_28 : decode cX5_readThing 28 = .ok (.getfield 12, 3) := by decide +kernel
theorem dX5_readThing_31 : decode cX5_readThing 31 = .ok (.iload_n 2, 1) := by decide +kernel
theorem dX5_readThing_32 : decode cX5_readThing 32 = .ok (.invokevirtual 147, 3) := by decide +kernel
theorem dX5_readThing_35 : decode cX5_readThing 35 = .ok (.ifCond .ne 5, 3) := by decide +kernel
theorem dX5_readThing_38 : decode cX5_readThing 38 = .ok (.iconst 0, 1) := by decide +kernel
theorem dX5_readThing_39 : decode cX5_readThing 39 = .ok (.ireturn, 1) := by decide +kernel
theorem dX5_readThing_40 : decode cX5_readThing 40 = .ok (.aload_n 0, 1) := by decide +kernel
theorem dX5_readThing_41 : decode cX5_readThing 41 = .ok (.getfield 12, 3) := by decide +kernel
theorem dX5_readThing_44 : decode cX5_readThing 44 = .ok (.getfield 153, 3) := by decide +kernel
theorem dX5_readThing_47 : decode cX5_readThing 47 = .ok (.iload_n 2, 1) := by decide +kernel
theorem dX5_readThing_48 : decode cX5_readThing 48 = .ok (.iaload, 1) := by decide +kernel
theorem dX5_readThing_49 : decode cX5_readThing 49 = .ok (.iload_n 1, 1) := by decide +kernel
theorem dX5_readThing_50 : decode cX5_readThing 50 = .ok (.iand, 1) := by decide +kernel
theorem dX5_readThing_51 : decode cX5_readThing 51 = .ok (.ifCond .eq 9, 3) := by decide +kernel
theorem dX5_readThing_54 : decode cX5_readThing 54 = .ok (.aload_n 0, 1) := by decide +kernel
theorem dX5_readThing_55 : decode cX5_readThing 55 = .ok (.iconst 4, 1) := by decide +kernel
theorem dX5_readThing_56 : decode cX5_readThing 56 = .ok (.invokevirtual 82, 3) := by decide +kernel
theorem dX5_readThing_59 : decode cX5_readThing 59 = .ok (.ireturn, 1) := by decide +kernel
theorem dX5_readThing_60 : decode cX5_readThing 60 = .ok (.aload_n 0, 1) := by decide +kernel
theorem dX5_readThing_61 : decode cX5_readThing 61 = .ok (.getfield 12, 3) := by decide +kernel
theorem dX5_readThing_64 : decode cX5_readThing 64 = .ok (.getfield 153, 3) := by decide +kernel
theorem dX5_readThing_67 : decode cX5_readThing 67 = .ok (.iload_n 2, 1) := by decide +kernel
theorem dX5_readThing_68 : decode cX5_readThing 68 = .ok (.dup2, 1) := by decide +kernel
theorem dX5_readThing_69 : decode cX5_readThing 69 = .ok (.iaload, 1) := by decide +kernel
theorem dX5_readThing_70 : decode cX5_readThing 70 = .ok (.iload_n 1, 1) := by decide +kernel
theorem dX5_readThing_71 : decode cX5_readThing 71 = .ok (.ior, 1) := by decide +kernel
theorem dX5_readThing_72 : decode cX5_readThing 72 = .ok (.iastore, 1) := by decide +kernel
theorem dX5_readThing_73 : decode cX5_readThing 73 = .ok (.aload_n 0, 1) := by decide +kernel
theorem dX5_readThing_74 : decode cX5_readThing 74 = .ok (.invokevirtual 113, 3) := by decide +kernel
theorem dX5_readThing_77 : decode cX5_readThing 77 = .ok (.ireturn, 1) := by decide +kernel
theorem dX5_thingOfWord_0 : decode cX5_thingOfWord 0 = .ok (.aload_n 0, 1) := by decide +kernel
theorem dX5_thingOfWord_1 : decode cX5_thingOfWord 1 = .ok (.getfield 25, 3) := by decide +kernel
theorem dX5_thingOfWord_4 : decode cX5_thingOfWord 4 = .ok (.ldc 156, 2) := by decide +kernel
theorem dX5_thingOfWord_6 : decode cX5_thingOfWord 6 = .ok (.invokevirtual 105, 3) := by decide +kernel
theorem dX5_thingOfWord_9 : decode cX5_thingOfWord 9 = .ok (.ifCond .eq 5, 3) := by decide +kernel
theorem dX5_thingOfWord_12 : decode cX5_thingOfWord 12 = .ok (.iconst 1, 1) := by decide +kernel
theorem dX5_thingOfWord_13 : decode cX5_thingOfWord 13 = .ok (.ireturn, 1) := by decide +kernel
theorem dX5_thingOfWord_14 : decode cX5_thingOfWord 14 = .ok (.aload_n 0, 1) := by decide +kernel
theorem dX5_thingOfWord_15 : decode cX5_thingOfWord 15 = .ok (.getfield 25, 3) := by decide +kernel
theorem dX5_thingOfWord_18 : decode cX5_thingOfWord 18 = .ok (.ldc 158, 2) := by decide +kernel
theorem dX5_thingOfWord_20 : decode cX5_thingOfWord 20 = .ok (.invokevirtual 105, 3) := by decide +kernel
theorem dX5_thingOfWord_23 : decode cX5_thingOfWord 23 = .ok (.ifCond .eq 5, 3) := by decide +kernel
theorem dX5_thingOfWord_26 : decode cX5_thingOfWord 26 = .ok (.iconst 2, 1) := by decide +kernel
theorem dX5_thingOfWord_27 : decode cX5_thingOfWord 27 = .ok (.ireturn, 1) := by decide +kernel
theorem dX5_thingOfWord_28 : decode cX5_thingOfWord 28 = .ok (.aload_n 0, 1) := by decide +kernel
theorem dX5_thingOfWord_29 : decode cX5_thingOfWord 29 = .ok (.getfield 25, 3) := by decide +kernel
theorem dX5_thingOfWord_32 : decode cX5_thingOfWord 32 = .ok (.ldc 160, 2) := by decide +kernel
theorem dX5_thingOfWord_34 : decode cX5_thingOfWord 34 = .ok (.invokevirtual 105, 3) := by decide +kernel
theorem dX5_thingOfWord_37 : decode cX5_thingOfWord 37 = .ok (.ifCond .eq 7, 3) := by decide +kernel
theorem dX5_thingOfWord_40 : decode cX5_thingOfWord 40 = .ok (.iconst 4, 1) := by decide +kernel
theorem dX5_thingOfWord_41 : decode cX5_thingOfWord 41 = .ok (.goto 4, 3) := by decide +kernel
theorem dX5_thingOfWord_44 : decode cX5_thingOfWord 44 = .ok (.iconst 0, 1) := by decide +kernel
theorem dX5_thingOfWord_45 : decode cX5_thingOfWord 45 = .ok (.ireturn, 1) := by decide +kernel
theorem dX5_readCow_0 : decode cX5_readCow 0 = .ok (.aload_n 0, 1) := by decide +kernel
theorem dX5_readCow_1 : decode cX5_readCow 1 = .ok (.iconst 1, 1) := by decide +kernel
theorem dX5_readCow_2 : decode cX5_readCow 2 = .ok (.putfield 69, 3) := by decide +kernel
theorem dX5_readCow_5 : decode cX5_readCow 5 = .ok (.aload_n 0, 1) := by decide +kernel
theorem dX5_readCow_6 : decode cX5_readCow 6 = .ok (.invokevirtual 144, 3) := by decide +kernel
theorem dX5_readCow_9 : decode cX5_readCow 9 = .ok (.istore_n 1, 1) := by decide +kernel
theorem dX5_readCow_10 : decode cX5_readCow 10 = .ok (.aload_n 0, 1) := by decide +kernel
theorem dX5_readCow_11 : decode cX5_readCow 11 = .ok (.getfield 12, 3) := by decide +kernel
theorem dX5_readCow_14 : decode cX5_readCow 14 = .ok (.iload_n 1, 1) := by decide +kernel
theorem dX5_readCow_15 : decode cX5_readCow 15 = .ok (.invokevirtual 147, 3) := by decide +kernel
theorem dX5_readCow_18 : decode cX5_readCow 18 = .ok (.ifCond .ne 5, 3) := by decide +kernel
theorem dX5_readCow_21 : decode cX5_readCow 21 = .ok (.iconst 0, 1) := by decide +kernel
theorem dX5_readCow_22 : decode cX5_readCow 22 = .ok (.ireturn, 1) := by decide +kernel
theorem dX5_readCow_23 : decode cX5_readCow 23 = .ok (.aload_n 0, 1) := by decide +kernel
theorem dX5_readCow_24 : decode cX5_readCow 24 = .ok (.iconst 1, 1) := by decide +kernel
theorem dX5_readCow_25 : decode cX5_readCow 25 = .ok (.bipush 8, 2) := by decide +kernel
theorem dX5_readCow_27 : decode cX5_readCow 27 = .ok (.invokevirtual 93, 3) := by decide +kernel
theorem dX5_readCow_30 : decode cX5_readCow 30 = .ok (.istore_n 2, 1) := by decide +kernel
theorem dX5_readCow_31 : decode cX5_readCow 31 = .ok (.iload_n 2, 1) := by decide +kernel
theorem dX5_readCow_32 : decode cX5_readCow 32 = .ok (.ifCond .ge 5, 3) := by decide +kernel
theorem dX5_readCow_35 : decode cX5_readCow 35 = .ok (.iconst 0, 1) := by decide +kernel
theorem dX5_readCow_36 : decode cX5_readCow 36 = .ok (.ireturn, 1) := by decide +kernel
theorem dX5_readCow_37 : decode cX5_readCow 37 = .ok (.aload_n 0, 1) := by decide +kernel
theorem dX5_readCow_38 : decode cX5_readCow 38 = .ok (.getfield 12, 3) := by decide +kernel
theorem dX5_readCow_41 : decode cX5_readCow 41 = .ok (.iload_n 1, 1) := by decide +kernel
theorem dX5_readCow_42 : decode cX5_readCow 42 = .ok (.putfield 162, 3) := by decide +kernel
theorem dX5_readCow_45 : decode cX5_readCow 45 = .ok (.aload_n 0, 1) := by decide +kernel
theorem dX5_readCow_46 : decode cX5_readCow 46 = .ok (.getfield 12, 3) := by decide +kernel
theorem dX5_readCow_49 : decode cX5_readCow 49 = .ok (.iload_n 2, 1) := by decide +kernel
theorem dX5_readCow_50 : decode cX5_readCow 50 = .ok (.putfield 165, 3) := by decide +kernel
theorem dX5_readCow_53 : decode cX5_readCow 53 = .ok (.aload_n 0, 1) := by decide +kernel
theorem dX5_readCow_54 : decode cX5_readCow 54 = .ok (.invokevirtual 113, 3) := by decide +kernel
theorem dX5_readCow_57 : decode cX5_readCow 57 = .ok (.ireturn, 1) := by decide +kernel
theorem dX5_readLikes_0 : decode cX5_readLikes 0 = .ok (.aload_n 0, 1) := by decide +kernel
theorem dX5_readLikes_1 : decode cX5_readLikes 1 = .ok (.iconst 1, 1) := by decide +kernel
theorem dX5_readLikes_2 : decode cX5_readLikes 2 = .ok (.putfield 73, 3) := by decide +kernel
theorem dX5_readLikes_5 : decode cX5_readLikes 5 = .ok (.aload_n 0, 1) := by decide +kernel
theorem dX5_readLikes_6 : decode cX5_readLikes 6 = .ok (.iconst 0, 1) := by decide +kernel
theorem dX5_readLikes_7 : decode cX5_readLikes 7 = .ok (.bipush 9, 2) := by decide +kernel
theorem dX5_readLikes_9 : decode cX5_readLikes 9 = .ok (.invokevirtual 93, 3) := by decide +kernel
theorem dX5_readLikes_12 : decode cX5_readLikes 12 = .ok (.istore_n 1, 1) := by decide +kernel
theorem dX5_readLikes_13 : decode cX5_readLikes 13 = .ok (.iload_n 1, 1) := by decide +kernel
theorem dX5_readLikes_14 : decode cX5_readLikes 14 = .ok (.ifCond .ge 5, 3) := by decide +kernel
theorem dX5_readLikes_17 : decode cX5_readLikes 17 = .ok (.iconst 0, 1) := by decide +kernel
theorem dX5_readLikes_18 : decode cX5_readLikes 18 = .ok (.ireturn, 1) := by decide +kernel
theorem dX5_readLikes_19 : decode cX5_readLikes 19 = .ok (.aload_n 0, 1) := by decide +kernel
theorem dX5_readLikes_20 : decode cX5_readLikes 20 = .ok (.iconst 0, 1) := by decide +kernel
theorem dX5_readLikes_21 : decode cX5_readLikes 21 = .ok (.bipush 9, 2) := by decide +kernel
theorem dX5_readLikes_23 : decode cX5_readLikes 23 = .ok (.invokevirtual 93, 3) := by decide +kernel
theorem dX5_readLikes_26 : decode cX5_readLikes 26 = .ok (.istore_n 2, 1) := by decide +kernel
theorem dX5_readLikes_27 : decode cX5_readLikes 27 = .ok (.iload_n 2, 1) := by decide +kernel
theorem dX5_readLikes_28 : decode cX5_readLikes 28 = .ok (.ifCond .ge 5, 3) := by decide +kernel
theorem dX5_readLikes_31 : decode cX5_readLikes 31 = .ok (.iconst 0, 1) := by decide +kernel
theorem dX5_readLikes_32 : decode cX5_readLikes 32 = .ok (.ireturn, 1) := by decide +kernel
theorem dX5_readLikes_33 : decode cX5_readLikes 33 = .ok (.aload_n 0, 1) := by decide +kernel
theorem dX5_readLikes_34 : decode cX5_readLikes 34 = .ok (.iconst 0, 1) := by decide +kernel
theorem dX5_readLikes_35 : decode cX5_readLikes 35 = .ok (.bipush 9, 2) := by decide +kernel
theorem dX5_readLikes_37 : decode cX5_readLikes 37 = .ok (.invokevirtual 93, 3) := by decide +kernel
theorem dX5_readLikes_40 : decode cX5_readLikes 40 = .ok (.istore_n 3, 1) := by decide +kernel
theorem dX5_readLikes_41 : decode cX5_readLikes 41 = .ok (.iload_n 3, 1) := by decide +kernel
theorem dX5_readLikes_42 : decode cX5_readLikes 42 = .ok (.ifCond .ge 5, 3) := by decide +kernel
theorem dX5_readLikes_45 : decode cX5_readLikes 45 = .ok (.iconst 0, 1) := by decide +kernel
theorem dX5_readLikes_46 : decode cX5_readLikes 46 = .ok (.ireturn, 1) := by decide +kernel
theorem dX5_readLikes_47 : decode cX5_readLikes 47 = .ok (.aload_n 0, 1) := by decide +kernel
theorem dX5_readLikes_48 : decode cX5_readLikes 48 = .ok (.iconst 0, 1) := by decide +kernel
theorem dX5_readLikes_49 : decode cX5_readLikes 49 = .ok (.bipush 9, 2) := by decide +kernel
theorem dX5_readLikes_51 : decode cX5_readLikes 51 = .ok (.invokevirtual 93, 3) := by decide +kernel
theorem dX5_readLikes_54 : decode cX5_readLikes 54 = .ok (.istore 4, 2) := by decide +kernel
theorem dX5_readLikes_56 : decode cX5_readLikes 56 = .ok (.iload 4, 2) := by decide +kernel
theorem dX5_readLikes_58 : decode cX5_readLikes 58 = .ok (.ifCond .ge 5, 3) := by decide +kernel
theorem dX5_readLikes_61 : decode cX5_readLikes 61 = .ok (.iconst 0, 1) := by decide +kernel
theorem dX5_readLikes_62 : decode cX5_readLikes 62 = .ok (.ireturn, 1) := by decide +kernel
theorem dX5_readLikes_63 : decode cX5_readLikes 63 = .ok (.aload_n 0, 1) := by decide +kernel
theorem dX5_readLikes_64 : decode cX5_readLikes 64 = .ok (.getfield 12, 3) := by decide +kernel
theorem dX5_readLikes_67 : decode cX5_readLikes 67 = .ok (.iload_n 1, 1) := by decide +kernel
theorem dX5_readLikes_68 : decode cX5_readLikes 68 = .ok (.iload_n 2, 1) := by decide +kernel
theorem dX5_readLikes_69 : decode cX5_readLikes 69 = .ok (.iload_n 3, 1) := by decide +kernel
theorem dX5_readLikes_70 : decode cX5_readLikes 70 = .ok (.iload 4, 2) := by decide +kernel
theorem dX5_readLikes_72 : decode cX5_readLikes 72 = .ok (.invokevirtual 168, 3) := by decide +kernel
theorem dX5_readLikes_75 : decode cX5_readLikes 75 = .ok (.aload_n 0, 1) := by decide +kernel
theorem dX5_readLikes_76 : decode cX5_readLikes 76 = .ok (.invokevirtual 113, 3) := by decide +kernel
theorem dX5_readLikes_79 : decode cX5_readLikes 79 = .ok (.ireturn, 1) := by decide +kernel
theorem dX6_init_0 : decode cX6_init 0 = .ok (.aload_n 0, 1) := by decide +kernel
theorem dX6_init_1 : decode cX6_init 1 = .ok (.invokespecial 3, 3) := by decide +kernel
theorem dX6_init_4 : decode cX6_init 4 = .ok (.aload_n 0, 1) := by decide +kernel
theorem dX6_init_5 : decode cX6_init 5 = .ok (.bipush 10, 2) := by decide +kernel
theorem dX6_init_7 : decode cX6_init 7 = .ok (.newarray .int, 2) := by decide +kernel
theorem dX6_init_9 : decode cX6_init 9 = .ok (.putfield 9, 3) := by decide +kernel
theorem dX6_init_12 : decode cX6_init 12 = .ok (.aload_n 0, 1) := by decide +kernel
theorem dX6_init_13 : decode cX6_init 13 = .ok (.bipush 10, 2) := by decide +kernel
theorem dX6_init_15 : decode cX6_init 15 = .ok (.newarray .int, 2) := by decide +kernel
theorem dX6_init_17 : decode cX6_init 17 = .ok (.putfield 15, 3) := by decide +kernel
theorem dX6_init_20 : decode cX6_init 20 = .ok (.aload_n 0, 1) := by decide +kernel
theorem dX6_init_21 : decode cX6_init 21 = .ok (.bipush 40, 2) := by decide +kernel
theorem dX6_init_23 : decode cX6_init 23 = .ok (.newarray .boolean, 2) := by decide +kernel
theorem dX6_init_25 : decode cX6_init 25 = .ok (.putfield 18, 3) := by decide +kernel
theorem dX6_init_28 : decode cX6_init 28 = .ok (.aload_n 0, 1) := by decide +kernel
theorem dX6_init_29 : decode cX6_init 29 = .ok (.bipush 40, 2) := by decide +kernel
theorem dX6_init_31 : decode cX6_init 31 = .ok (.newarray .boolean, 2) := by decide +kernel
theorem dX6_init_33 : decode cX6_init 33 = .ok (.putfield 22, 3) := by decide +kernel
theorem dX6_init_36 : decode cX6_init 36 = .ok (.aload_n 0, 1) := by decide +kernel
theorem dX6_init_37 : decode cX6_init 37 = .ok (.aload_n 1, 1) := by decide +kernel
theorem dX6_init_38 : decode cX6_init 38 = .ok (.putfield 25, 3) := by decide +kernel
theorem dX6_init_41 : decode cX6_init 41 = .ok (.aload_n 0, 1) := by decide +kernel
theorem dX6_init_42 : decode cX6_init 42 = .ok (.aload_n 2, 1) := by decide +kernel
theorem dX6_init_43 : decode cX6_init 43 = .ok (.putfield 29, 3) := by decide +kernel
theorem dX6_init_46 : decode cX6_init 46 = .ok (.return_, 1) := by decide +kernel
theorem dX6_add_0 : decode cX6_add 0 = .ok (.aload_n 0, 1) := by decide +kernel
theorem dX6_add_1 : decode cX6_add 1 = .ok (.getfield 33, 3) := by decide +kernel
theorem dX6_add_4 : decode cX6_add 4 = .ok (.ifCond .lt 12, 3) := by decide +kernel
theorem dX6_add_7 : decode cX6_add 7 = .ok (.aload_n 0, 1) := by decide +kernel
theorem dX6_add_8 : decode cX6_add 8 = .ok (.getfield 33, 3) := by decide +kernel
theorem dX6_add_11 : decode cX6_add 11 = .ok (.bipush 10, 2) := by decide +kernel
theorem dX6_add_13 : decode cX6_add 13 = .ok (.if_icmp .lt 4, 3) := by decide +kernel
theorem dX6_add_16 : decode cX6_add 16 = .ok (.return_, 1) := by decide +kernel
theorem dX6_add_17 : decode cX6_add 17 = .ok (.aload_n 0, 1) := by decide +kernel
theorem dX6_add_18 : decode cX6_add 18 = .ok (.getfield 9, 3) := by decide +kernel
theorem dX6_add_21 : decode cX6_add 21 = .ok (.aload_n 0, 1) := by decide +kernel
theorem dX6_add_22 : decode cX6_add 22 = .ok (.getfield 33, 3) := by decide +kernel
theorem dX6_add_25 : decode cX6_add 25 = .ok (.iload_n 1, 1) := by decide +kernel
theorem dX6_add_26 : decode cX6_add 26 = .ok (.iastore, 1) := by decide +kernel
theorem dX6_add_27 : decode cX6_add 27 = .ok (.aload_n 0, 1) := by decide +kernel
theorem dX6_add_28 : decode cX6_add 28 = .ok (.getfield 15, 3) := by decide +kernel
theorem dX6_add_31 : decode cX6_add 31 = .ok (.aload_n 0, 1) := by decide +kernel
theorem dX6_add_32 : decode cX6_add 32 = .ok (.getfield 33, 3) := by decide +kernel
theorem dX6_add_35 : decode cX6_add 35 = .ok (.iload_n 2, 1) := by decide +kernel
theorem dX6_add_36 : decode cX6_add 36 = .ok (.iastore, 1) := by decide +kernel
theorem dX6_add_37 : decode cX6_add 37 = .ok (.aload_n 0, 1) := by decide +kernel
theorem dX6_add_38 : decode cX6_add 38 = .ok (.dup, 1) := by decide +kernel
theorem dX6_add_39 : decode cX6_add 39 = .ok (.getfield 33, 3) := by decide +kernel
theorem dX6_add_42 : decode cX6_add 42 = .ok (.iconst 1, 1) := by decide +kernel
theorem dX6_add_43 : decode cX6_add 43 = .ok (.iadd, 1) := by decide +kernel
theorem dX6_add_44 : decode cX6_add 44 = .ok (.putfield 33, 3) := by decide +kernel
theorem dX6_add_47 : decode cX6_add 47 = .ok (.return_, 1) := by decide +kernel
theorem dX6_followToNoon_0 : decode cX6_followToNoon 0 = .ok (.iconst 0, 1) := by decide +kernel
theorem dX6_followToNoon_1 : decode cX6_followToNoon 1 = .ok (.istore_n 1, 1) := by decide +kernel
theorem dX6_followToNoon_2 : decode cX6_followToNoon 2 = .ok (.iload_n 1, 1) := by decide +kernel
theorem dX6_followToNoon_3 : decode cX6_followToNoon 3 = .ok (.bipush 40, 2) := by decide +kernel
theorem dX6_followToNoon_5 : decode cX6_followToNoon 5 = .ok (.if_icmp .ge 16, 3) := by decide +kernel
theorem dX6_followToNoon_8 : decode cX6_followToNoon 8 = .ok (.aload_n 0, 1) := by decide +kernel
theorem dX6_followToNoon_9 : decode cX6_followToNoon 9 = .ok (.getfield 18, 3) := by decide +kernel
theorem dX6_followToNoon_12 : decode cX6_followToNoon 12 = .ok (.iload_n 1, 1) := by decide +kernel
theorem dX6_followToNoon_13 : decode cX6_followToNoon 13 = .ok (.iconst 0, 1) := by decide +kernel
theorem dX6_followToNoon_14 : decode cX6_followToNoon 14 = .ok (.bastore, 1) := by decide +kernel
theorem dX6_followToNoon_15 : decode cX6_followToNoon 15 = .ok (.iinc 1 1, 3) := by decide +kernel
theorem dX6_followToNoon_18 : decode cX6_followToNoon 18 = .ok (.goto (-16), 3) := by decide +kernel
theorem dX6_followToNoon_21 : decode cX6_followToNoon 21 = .ok (.aload_n 0, 1) := by decide +kernel
theorem dX6_followToNoon_22 : decode cX6_followToNoon 22 = .ok (.getfield 25, 3) := by decide +kernel
theorem dX6_followToNoon_25 : decode cX6_followToNoon 25 = .ok (.aload_n 0, 1) := by decide +kernel
theorem dX6_followToNoon_26 : decode cX6_followToNoon 26 = .ok (.getfield 29, 3) := by decide +kernel
theorem dX6_followToNoon_29 : decode cX6_followToNoon 29 = .ok (.getfield 37, 3) := by decide +kernel
theorem dX6_followToNoon_32 : decode cX6_followToNoon 32 = .ok (.invokevirtual 42, 3) := by decide +kernel
theorem dX6_followToNoon_35 : decode cX6_followToNoon 35 = .ok (.ifCond .eq 16, 3) := by decide +kernel
theorem dX6_followToNoon_38 : decode cX6_followToNoon 38 = .ok (.aload_n 0, 1) := by decide +kernel
theorem dX6_followToNoon_39 : decode cX6_followToNoon 39 = .ok (.getfield 18, 3) := by decide +kernel
theorem dX6_followToNoon_42 : decode cX6_followToNoon 42 = .ok (.aload_n 0, 1) := by decide +kernel
theorem dX6_followToNoon_43 : decode cX6_followToNoon 43 = .ok (.getfield 29, 3) := by decide +kernel
theorem dX6_followToNoon_46 : decode cX6_followToNoon 46 = .ok (.getfield 37, 3) := by decide +kernel
theorem dX6_followToNoon_49 : decode cX6_followToNoon 49 = .ok (.iconst 1, 1) := by decide +kernel
theorem dX6_followToNoon_50 : decode cX6_followToNoon 50 = .ok (.bastore, 1) := by decide +kernel
theorem dX6_followToNoon_51 : decode cX6_followToNoon 51 = .ok (.aload_n 0, 1) := by decide +kernel
theorem dX6_followToNoon_52 : decode cX6_followToNoon 52 = .ok (.iconst 0, 1) := by decide +kernel
theorem dX6_followToNoon_53 : decode cX6_followToNoon 53 = .ok (.invokevirtual 48, 3) := by decide +kernel
theorem dX6_followToNoon_56 : decode cX6_followToNoon 56 = .ok (.iconst 1, 1) := by decide +kernel
theorem dX6_followToNoon_57 : decode cX6_followToNoon 57 = .ok (.istore_n 1, 1) := by decide +kernel
theorem dX6_followToNoon_58 : decode cX6_followToNoon 58 = .ok (.iload_n 1, 1) := by decide +kernel
theorem dX6_followToNoon_59 : decode cX6_followToNoon 59 = .ok (.aload_n 0, 1) := by decide +kernel
theorem dX6_followToNoon_60 : decode cX6_followToNoon 60 = .ok (.getfield 25, 3) := by decide +kernel
theorem dX6_followToNoon_63 : decode cX6_followToNoon 63 = .ok (.getfield 52, 3) := by decide +kernel
theorem dX6_followToNoon_66 : decode cX6_followToNoon 66 = .ok (.if_icmp .gt 18, 3) := by decide +kernel
theorem dX6_followToNoon_69 : decode cX6_followToNoon 69 = .ok (.aload_n 0, 1) := by decide +kernel
theorem dX6_followToNoon_70 : decode cX6_followToNoon 70 = .ok (.invokevirtual 55, 3) := by decide +kernel
theorem dX6_followToNoon_73 : decode cX6_followToNoon 73 = .ok (.aload_n 0, 1) := by decide +kernel
theorem dX6_followToNoon_74 : decode cX6_followToNoon 74 = .ok (.iload_n 1, 1) := by decide +kernel
theorem dX6_followToNoon_75 : decode cX6_followToNoon 75 = .ok (.invokevirtual 48, 3) := by decide +kernel
theorem dX6_followToNoon_78 : decode cX6_followToNoon 78 = .ok (.iinc 1 1, 3) := by decide +kernel
theorem dX6_followToNoon_81 : decode cX6_followToNoon 81 = .ok (.goto (-23), 3) := by decide +kernel
theorem dX6_followToNoon_84 : decode cX6_followToNoon 84 = .ok (.return_, 1) := by decide +kernel
theorem dX6_spread_0 : decode cX6_spread 0 = .ok (.iconst 0, 1) := by decide +kernel
theorem dX6_spread_1 : decode cX6_spread 1 = .ok (.istore_n 1, 1) := by decide +kernel
theorem dX6_spread_2 : decode cX6_spread 2 = .ok (.iload_n 1, 1) := by decide +kernel
theorem dX6_spread_3 : decode cX6_spread 3 = .ok (.bipush 40, 2) := by decide +kernel
theorem dX6_spread_5 : decode cX6_spread 5 = .ok (.if_icmp .ge 16, 3) := by decide +kernel
theorem dX6_spread_8 : decode cX6_spread 8 = .ok (.aload_n 0, 1) := by decide +kernel
theorem dX6_spread_9 : decode cX6_spread 9 = .ok (.getfield 22, 3) := by decide +kernel
theorem dX6_spread_12 : decode cX6_spread 12 = .ok (.iload_n 1, 1) := by decide +kernel
theorem dX6_spread_13 : decode cX6_spread 13 = .ok (.iconst 0, 1) := by decide +kernel
theorem dX6_spread_14 : decode cX6_spread 14 = .ok (.bastore, 1) := by decide +kernel
theorem dX6_spread_15 : decode cX6_spread 15 = .ok (.iinc 1 1, 3) := by decide +kernel
theorem dX6_spread_18 : decode cX6_spread 18 = .ok (.goto (-16), 3) := by decide +kernel
theorem dX6_spread_21 : decode cX6_spread 21 = .ok (.iconst 0, 1) := by decide +kernel
theorem dX6_spread_22 : decode cX6_spread 22 = .ok (.istore_n 1, 1) := by decide +kernel
theorem dX6_spread_23 : decode cX6_spread 23 = .ok (.iload_n 1, 1) := by decide +kernel
theorem dX6_spread_24 : decode cX6_spread 24 = .ok (.aload_n 0, 1) := by decide +kernel
theorem dX6_spread_25 : decode cX6_spread 25 = .ok (.getfield 25, 3) := by decide +kernel
theorem dX6_spread_28 : decode cX6_spread 28 = .ok (.getfield 58, 3) := by decide +kernel
theorem dX6_spread_31 : decode cX6_spread 31 = .ok (.if_icmp .ge 23, 3) := by decide +kernel
theorem dX6_spread_34 : decode cX6_spread 34 = .ok (.aload_n 0, 1) := by decide +kernel
theorem dX6_spread_35 : decode cX6_spread 35 = .ok (.getfield 18, 3) := by decide +kernel
theorem dX6_spread_38 : decode cX6_spread 38 = .ok (.iload_n 1, 1) := by decide +kernel
theorem dX6_spread_39 : decode cX6_spread 39 = .ok (.baload, 1) := by decide +kernel
theorem dX6_spread_40 : decode cX6_spread 40 = .ok (.ifCond .eq 8, 3) := by decide +kernel
theorem dX6_spread_43 : decode cX6_spread 43 = .ok (.aload_n 0, 1) := by decide +kernel
theorem dX6_spread_44 : decode cX6_spread 44 = .ok (.iload_n 1, 1) := by decide +kernel
theorem dX6_spread_45 : decode cX6_spread 45 = .ok (.invokevirtual 61, 3) := by decide +kernel
theorem dX6_spread_48 : decode cX6_spread 48 = .ok (.iinc 1 1, 3) := by decide +kernel
theorem dX6_spread_51 : decode cX6_spread 51 = .ok (.goto (-28), 3) := by decide +kernel
theorem dX6_spread_54 : decode cX6_spread 54 = .ok (.iconst 0, 1) := by decide +kernel
theorem dX6_spread_55 : decode cX6_spread 55 = .ok (.istore_n 1, 1) := by decide +kernel
theorem dX6_spread_56 : decode cX6_spread 56 = .ok (.iload_n 1, 1) := by decide +kernel
theorem dX6_spread_57 : decode cX6_spread 57 = .ok (.bipush 40, 2) := by decide +kernel
theorem dX6_spread_59 : decode cX6_spread 59 = .ok (.if_icmp .ge 21, 3) := by decide +kernel
theorem dX6_spread_62 : decode cX6_spread 62 = .ok (.aload_n 0, 1) := by decide +kernel
theorem dX6_spread_63 : decode cX6_spread 63 = .ok (.getfield 18, 3) := by decide +kernel
theorem dX6_spread_66 : decode cX6_spread 66 = .ok (.iload_n 1, 1) := by decide +kernel
theorem dX6_spread_67 : decode cX6_spread 67 = .ok (.aload_n 0, 1) := by decide +kernel
theorem dX6_spread_68 : decode cX6_spread 68 = .ok (.getfield 22, 3) := by decide +kernel
theorem dX6_spread_71 : decode cX6_spread 71 = .ok (.iload_n 1, 1) := by decide +kernel
theorem dX6_spread_72 : decode cX6_spread 72 = .ok (.baload, 1) := by decide +kernel
theorem dX6_spread_73 : decode cX6_spread 73 = .ok (.bastore, 1) := by decide +kernel
theorem dX6_spread_74 : decode cX6_spread 74 = .ok (.iinc 1 1, 3) := by decide +kernel
theorem dX6_spread_77 : decode cX6_spread 77 = .ok (.goto (-21), 3) := by decide +kernel
theorem dX6_spread_80 : decode cX6_spread 80 = .ok (.return_, 1) := by decide +kernel
theorem dX6_reachFrom_0 : decode cX6_reachFrom 0 = .ok (.iconst 0, 1) := by decide +kernel
theorem dX6_reachFrom_1 : decode cX6_reachFrom 1 = .ok (.istore_n 2, 1) := by decide +kernel
theorem dX6_reachFrom_2 : decode cX6_reachFrom 2 = .ok (.iload_n 2, 1) := by decide +kernel
theorem dX6_reachFrom_3 : decode cX6_reachFrom 3 = .ok (.iconst 5, 1) := by decide +kernel
theorem dX6_reachFrom_4 : decode cX6_reachFrom 4 = .ok (.if_icmp .ge 37, 3) := by decide +kernel
theorem dX6_reachFrom_7 : decode cX6_reachFrom 7 = .ok (.aload_n 0, 1) := by decide +kernel
theorem dX6_reachFrom_8 : decode cX6_reachFrom 8 = .ok (.getfield 25, 3) := by decide +kernel
theorem dX6_reachFrom_11 : decode cX6_reachFrom 11 = .ok (.iload_n 1, 1) := by decide +kernel
theorem dX6_reachFrom_12 : decode cX6_reachFrom 12 = .ok (.iload_n 2, 1) := by decide +kernel
theorem dX6_reachFrom_13 : decode cX6_reachFrom 13 = .ok (.invokevirtual 64, 3) := by decide +kernel
theorem dX6_reachFrom_16 : decode cX6_reachFrom 16 = .ok (.istore_n 3, 1) := by decide +kernel
theorem dX6_reachFrom_17 : decode cX6_reachFrom 17 = .ok (.aload_n 0, 1) := by decide +kernel
theorem dX6_reachFrom_18 : decode cX6_reachFrom 18 = .ok (.getfield 25, 3) := by decide +kernel
theorem dX6_reachFrom_21 : decode cX6_reachFrom 21 = .ok (.iload_n 3, 1) := by decide +kernel
theorem dX6_reachFrom_22 : decode cX6_reachFrom 22 = .ok (.invokevirtual 42, 3) := by decide +kernel
theorem dX6_reachFrom_25 : decode cX6_reachFrom 25 = .ok (.ifCond .eq 10, 3) := by decide +kernel
theorem dX6_reachFrom_28 : decode cX6_reachFrom 28 = .ok (.aload_n 0, 1) := by decide +kernel
theorem dX6_reachFrom_29 : decode cX6_reachFrom 29 = .ok (.getfield 22, 3) := by decide +kernel
theorem dX6_reachFrom_32 : decode cX6_reachFrom 32 = .ok (.iload_n 3, 1) := by decide +kernel
theorem dX6_reachFrom_33 : decode cX6_reachFrom 33 = .ok (.iconst 1, 1) := by decide +kernel
theorem dX6_reachFrom_34 : decode cX6_reachFrom 34 = .ok (.bastore, 1) := by decide +kernel
theorem dX6_reachFrom_35 : decode cX6_reachFrom 35 = .ok (.iinc 2 1, 3) := by decide +kernel
theorem dX6_reachFrom_38 : decode cX6_reachFrom 38 = .ok (.goto (-36), 3) := by decide +kernel
theorem dX6_reachFrom_41 : decode cX6_reachFrom 41 = .ok (.return_, 1) := by decide +kernel
theorem dX6_keepSeen_0 : decode cX6_keepSeen 0 = .ok (.iconst 0, 1) := by decide +kernel
theorem dX6_keepSeen_1 : decode cX6_keepSeen 1 = .ok (.istore_n 2, 1) := by decide +kernel
theorem dX6_keepSeen_2 : decode cX6_keepSeen 2 = .ok (.iload_n 2, 1) := by decide +kernel
theorem dX6_keepSeen_3 : decode cX6_keepSeen 3 = .ok (.aload_n 0, 1) := by decide +kernel
theorem dX6_keepSeen_4 : decode cX6_keepSeen 4 = .ok (.getfield 33, 3) := by decide +kernel
theorem dX6_keepSeen_7 : decode cX6_keepSeen 7 = .ok (.if_icmp .ge 59, 3) := by decide +kernel
theorem dX6_keepSeen_10 : decode cX6_keepSeen 10 = .ok (.iload_n 2, 1) := by decide +kernel
theorem dX6_keepSeen_11 : decode cX6_keepSeen 11 = .ok (.bipush 10, 2) := by decide +kernel
theorem dX6_keepSeen_13 : decode cX6_keepSeen 13 = .ok (.if_icmp .ge 53, 3) := by decide +kernel
theorem dX6_keepSeen_16 : decode cX6_keepSeen 16 = .ok (.aload_n 0, 1) := by decide +kernel
theorem dX6_keepSeen_17 : decode cX6_keepSeen 17 = .ok (.getfield 15, 3) := by decide +kernel
theorem dX6_keepSeen_20 : decode cX6_keepSeen 20 = .ok (.iload_n 2, 1) := by decide +kernel
theorem dX6_keepSeen_21 : decode cX6_keepSeen 21 = .ok (.iaload, 1) := by decide +kernel
theorem dX6_keepSeen_22 : decode cX6_keepSeen 22 = .ok (.iload_n 1, 1) := by decide +kernel
theorem dX6_keepSeen_23 : decode cX6_keepSeen 23 = .ok (.if_icmp .eq 6, 3) := by decide +kernel
theorem dX6_keepSeen_26 : decode cX6_keepSeen 26 = .ok (.goto 34, 3) := by decide +kernel
theorem dX6_keepSeen_29 : decode cX6_keepSeen 29 = .ok (.iconst 0, 1) := by decide +kernel
theorem dX6_keepSeen_30 : decode cX6_keepSeen 30 = .ok (.istore_n 3, 1) := by decide +kernel
theorem dX6_keepSeen_31 : decode cX6_keepSeen 31 = .ok (.iload_n 3, 1) := by decide +kernel
theorem dX6_keepSeen_32 : decode cX6_keepSeen 32 = .ok (.bipush 40, 2) := by decide +kernel
theorem dX6_keepSeen_34 : decode cX6_keepSeen 34 = .ok (.if_icmp .ge 26, 3) := by decide +kernel
theorem dX6_keepSeen_37 : decode cX6_keepSeen 37 = .ok (.iload_n 3, 1) := by decide +kernel
theorem dX6_keepSeen_38 : decode cX6_keepSeen 38 = .ok (.aload_n 0, 1) := by decide +kernel
theorem dX6_keepSeen_39 : decode cX6_keepSeen 39 = .ok (.getfield 9, 3) := by decide +kernel
theorem dX6_keepSeen_42 : decode cX6_keepSeen 42 = .ok (.iload_n 2, 1) := by decide +kernel
theorem dX6_keepSeen_43 : decode cX6_keepSeen 43 = .ok (.iaload, 1) := by decide +kernel
theorem dX6_keepSeen_44 : decode cX6_keepSeen 44 = .ok (.if_icmp .eq 10, 3) := by decide +kernel
theorem dX6_keepSeen_47 : decode cX6_keepSeen 47 = .ok (.aload_n 0, 1) := by decide +kernel
theorem dX6_keepSeen_48 : decode cX6_keepSeen 48 = .ok (.getfield 18, 3) := by decide +kernel
theorem dX6_keepSeen_51 : decode cX6_keepSeen 51 = .ok (.iload_n 3, 1) := by decide +kernel
theorem dX6_keepSeen_52 : decode cX6_keepSeen 52 = .ok (.iconst 0, 1) := by decide +kernel
theorem dX6_keepSeen_53 : decode cX6_keepSeen 53 = .ok (.bastore, 1) := by decide +kernel
theorem dX6_keepSeen_54 : decode cX6_keepSeen 54 = .ok (.iinc 3 1, 3) := by decide +kernel
theorem dX6_keepSeen_57 : decode cX6_keepSeen 57 = .ok (.goto (-26), 3) := by decide +kernel
theorem dX6_keepSeen_60 : decode cX6_keepSeen 60 = .ok (.iinc 2 1, 3) := by decide +kernel
theorem dX6_keepSeen_63 : decode cX6_keepSeen 63 = .ok (.goto (-61), 3) := by decide +kernel
theorem dX6_keepSeen_66 : decode cX6_keepSeen 66 = .ok (.return_, 1) := by decide +kernel
theorem dX6_fits_0 : decode cX6_fits 0 = .ok (.aload_n 0, 1) := by decide +kernel
theorem dX6_fits_1 : decode cX6_fits 1 = .ok (.getfield 25, 3) := by decide +kernel
theorem dX6_fits_4 : decode cX6_fits 4 = .ok (.iload_n 1, 1) := by decide +kernel
theorem dX6_fits_5 : decode cX6_fits 5 = .ok (.invokevirtual 42, 3) := by decide +kernel
theorem dX6_fits_8 : decode cX6_fits 8 = .ok (.ifCond .eq 12, 3) := by decide +kernel
theorem dX6_fits_11 : decode cX6_fits 11 = .ok (.aload_n 0, 1) := by decide +kernel
theorem dX6_fits_12 : decode cX6_fits 12 = .ok (.getfield 18, 3) := by decide +kernel
theorem dX6_fits_15 : decode cX6_fits 15 = .ok (.iload_n 1, 1) := by decide +kernel
theorem dX6_fits_16 : decode cX6_fits 16 = .ok (.baload, 1) := by decide +kernel
theorem dX6_fits_17 : decode cX6_fits 17 = .ok (.ifCond .ne 5, 3) := by decide +kernel
theorem dX6_fits_20 : decode cX6_fits 20 = .ok (.iconst 0, 1) := by decide +kernel
theorem dX6_fits_21 : decode cX6_fits 21 = .ok (.ireturn, 1) := by decide +kernel
theorem dX6_fits_22 : decode cX6_fits 22 = .ok (.iload_n 2, 1) := by decide +kernel
theorem dX6_fits_23 : decode cX6_fits 23 = .ok (.iconst (-1), 1) := by decide +kernel
theorem dX6_fits_24 : decode cX6_fits 24 = .ok (.if_icmp .eq 23, 3) := by decide +kernel
theorem dX6_fits_27 : decode cX6_fits 27 = .ok (.aload_n 0, 1) := by decide +kernel
theorem dX6_fits_28 : decode cX6_fits 28 = .ok (.getfield 25, 3) := by decide +kernel
theorem dX6_fits_31 : decode cX6_fits 31 = .ok (.iconst 0, 1) := by decide +kernel
theorem dX6_fits_32 : decode cX6_fits 32 = .ok (.iload_n 1, 1) := by decide +kernel
theorem dX6_fits_33 : decode cX6_fits 33 = .ok (.aload_n 0, 1) := by decide +kernel
theorem dX6_fits_34 : decode cX6_fits 34 = .ok (.getfield 29, 3) := by decide +kernel
theorem dX6_fits_37 : decode cX6_fits 37 = .ok (.getfield 68, 3) := by decide +kernel
theorem dX6_fits_40 : decode cX6_fits 40 = .ok (.invokevirtual 71, 3) := by decide +kernel
theorem dX6_fits_43 : decode cX6_fits 43 = .ok (.iload_n 2, 1) := by decide +kernel
theorem dX6_fits_44 : decode cX6_fits 44 = .ok (.if_icmp .ne 7, 3) := by decide +kernel
theorem dX6_fits_47 : decode cX6_fits 47 = .ok (.iconst 1, 1) := by decide +kernel
theorem dX6_fits_48 : decode cX6_fits 48 = .ok (.goto 4, 3) := by decide +kernel
theorem dX6_fits_51 : decode cX6_fits 51 = .ok (.iconst 0, 1) := by decide +kernel
theorem dX6_fits_52 : decode cX6_fits 52 = .ok (.ireturn, 1) := by decide +kernel
theorem dX6_countFitting_0 : decode cX6_countFitting 0 = .ok (.iconst 0, 1) := by decide +kernel
theorem dX6_countFitting_1 : decode cX6_countFitting 1 = .ok (.istore_n 2, 1) := by decide +kernel
theorem dX6_countFitting_2 : decode cX6_countFitting 2 = .ok (.iconst 0, 1) := by decide +kernel
theorem dX6_countFitting_3 : decode cX6_countFitting 3 = .ok (.istore_n 3, 1) := by decide +kernel
theorem dX6_countFitting_4 : decode cX6_countFitting 4 = .ok (.iload_n 3, 1) := by decide +kernel
theorem dX6_countFitting_5 : decode cX6_countFitting 5 = .ok (.aload_n 0, 1) := by decide +kernel
theorem dX6_countFitting_6 : decode cX6_countFitting 6 = .ok (.getfield 25, 3) := by decide +kernel
theorem dX6_countFitting_9 : decode cX6_countFitting 9 = .ok (.getfield 58, 3) := by decide +kernel
theorem dX6_countFitting_12 : decode cX6_countFitting 12 = .ok (.if_icmp .ge 21, 3) := by decide +kernel
theorem dX6_countFitting_15 : decode cX6_countFitting 15 = .ok (.aload_n 0, 1) := by decide +kernel
theorem dX6_countFitting_16 : decode cX6_countFitting 16 = .ok (.iload_n 3, 1) := by decide +kernel
theorem dX6_countFitting_17 : decode cX6_countFitting 17 = .ok (.iload_n 1, 1) := by decide +kernel
theorem dX6_countFitting_18 : decode cX6_countFitting 18 = .ok (.invokevirtual 75, 3) := by decide +kernel
theorem dX6_countFitting_21 : decode cX6_countFitting 21 = .ok (.ifCond .eq 6, 3) := by decide +kernel
theorem dX6_countFitting_24 : decode cX6_countFitting 24 = .ok (.iinc 2 1, 3) := by decide +kernel
theorem dX6_countFitting_27 : decode cX6_countFitting 27 = .ok (.iinc 3 1, 3) := by decide +kernel
theorem dX6_countFitting_30 : decode cX6_countFitting 30 = .ok (.goto (-26), 3) := by decide +kernel
theorem dX6_countFitting_33 : decode cX6_countFitting 33 = .ok (.iload_n 2, 1) := by decide +kernel
theorem dX6_countFitting_34 : decode cX6_countFitting 34 = .ok (.ireturn, 1) := by decide +kernel
theorem dX6_fittingCell_0 : decode cX6_fittingCell 0 = .ok (.iconst 0, 1) := by decide +kernel
theorem dX6_fittingCell_1 : decode cX6_fittingCell 1 = .ok (.istore_n 3, 1) := by decide +kernel
theorem dX6_fittingCell_2 : decode cX6_fittingCell 2 = .ok (.iconst 0, 1) := by decide +kernel
theorem dX6_fittingCell_3 : decode cX6_fittingCell 3 = .ok (.istore 4, 2) := by decide +kernel
theorem dX6_fittingCell_5 : decode cX6_fittingCell 5 = .ok (.iload 4, 2) := by decide +kernel
theorem dX6_fittingCell_7 : decode cX6_fittingCell 7 = .ok (.aload_n 0, 1) := by decide +kernel
theorem dX6_fittingCell_8 : decode cX6_fittingCell 8 = .ok (.getfield 25, 3) := by decide +kernel
theorem dX6_fittingCell_11 : decode cX6_fittingCell 11 = .ok (.getfield 58, 3) := by decide +kernel
theorem dX6_fittingCell_14 : decode cX6_fittingCell 14 = .ok (.if_icmp .ge 33, 3) := by decide +kernel
theorem dX6_fittingCell_17 : decode cX6_fittingCell 17 = .ok (.aload_n 0, 1) := by decide +kernel
theorem dX6_fittingCell_18 : decode cX6_fittingCell 18 = .ok (.iload 4, 2) := by decide +kernel
theorem dX6_fittingCell_20 : decode cX6_fittingCell 20 = .ok (.iload_n 1, 1) := by decide +kernel
theorem dX6_fittingCell_21 : decode cX6_fittingCell 21 = .ok (.invokevirtual 75, 3) := by decide +kernel
theorem dX6_fittingCell_24 : decode cX6_fittingCell 24 = .ok (.ifCond .ne 6, 3) := by decide +kernel
theorem dX6_fittingCell_27 : decode cX6_fittingCell 27 = .ok (.goto 14, 3) := by decide +kernel
theorem dX6_fittingCell_30 : decode cX6_fittingCell 30 = .ok (.iload_n 3, 1) := by decide +kernel
theorem dX6_fittingCell_31 : decode cX6_fittingCell 31 = .ok (.iload_n 2, 1) := by decide +kernel
theorem dX6_fittingCell_32 : decode cX6_fittingCell 32 = .ok (.if_icmp .ne 6, 3) := by decide +kernel
theorem dX6_fittingCell_35 : decode cX6_fittingCell 35 = .ok (.iload 4, 2) := by decide +kernel
theorem dX6_fittingCell_37 : decode cX6_fittingCell 37 = .ok (.ireturn, 1) := by decide +kernel
theorem dX6_fittingCell_38 : decode cX6_fittingCell 38 = .ok (.iinc 3 1, 3) := by decide +kernel
theorem dX6_fittingCell_41 : decode cX6_fittingCell 41 = .ok (.iinc 4 1, 3) := by decide +kernel
theorem dX6_fittingCell_44 : decode cX6_fittingCell 44 = .ok (.goto (-39), 3) := by decide +kernel
theorem dX6_fittingCell_47 : decode cX6_fittingCell 47 = .ok (.iconst (-1), 1) := by decide +kernel
theorem dX6_fittingCell_48 : decode cX6_fittingCell 48 = .ok (.ireturn, 1) := by decide +kernel
theorem dX7_init_0 : decode cX7_init 0 = .ok (.aload_n 0, 1) := by decide +kernel
theorem dX7_init_1 : decode cX7_init 1 = .ok (.invokespecial 3, 3) := by decide +kernel
theorem dX7_init_4 : decode cX7_init 4 = .ok (.aload_n 0, 1) := by decide +kernel
theorem dX7_init_5 : decode cX7_init 5 = .ok (.sipush 500, 3) := by decide +kernel
theorem dX7_init_8 : decode cX7_init 8 = .ok (.newarray .int, 2) := by decide +kernel
theorem dX7_init_10 : decode cX7_init 10 = .ok (.putfield 9, 3) := by decide +kernel
theorem dX7_init_13 : decode cX7_init 13 = .ok (.return_, 1) := by decide +kernel
theorem dX7_add_0 : decode cX7_add 0 = .ok (.aload_n 0, 1) := by decide +kernel
theorem dX7_add_1 : decode cX7_add 1 = .ok (.getfield 15, 3) := by decide +kernel
theorem dX7_add_4 : decode cX7_add 4 = .ok (.ifCond .lt 13, 3) := by decide +kernel
theorem dX7_add_7 : decode cX7_add 7 = .ok (.aload_n 0, 1) := by decide +kernel
theorem dX7_add_8 : decode cX7_add 8 = .ok (.getfield 15, 3) := by decide +kernel
theorem dX7_add_11 : decode cX7_add 11 = .ok (.sipush 500, 3) := by decide +kernel
theorem dX7_add_14 : decode cX7_add 14 = .ok (.if_icmp .lt 4, 3) := by decide +kernel
theorem dX7_add_17 : decode cX7_add 17 = .ok (.return_, 1) := by decide +kernel
theorem dX7_add_18 : decode cX7_add 18 = .ok (.aload_n 0, 1) := by decide +kernel
theorem dX7_add_19 : decode cX7_add 19 = .ok (.getfield 9, 3) := by decide +kernel
theorem dX7_add_22 : decode cX7_add 22 = .ok (.aload_n 0, 1) := by decide +kernel
theorem dX7_add_23 : decode cX7_add 23 = .ok (.getfield 15, 3) := by decide +kernel
theorem dX7_add_26 : decode cX7_add 26 = .ok (.iload_n 1, 1) := by decide +kernel
theorem dX7_add_27 : decode cX7_add 27 = .ok (.iastore, 1) := by decide +kernel
theorem dX7_add_28 : decode cX7_add 28 = .ok (.aload_n 0, 1) := by decide +kernel
theorem dX7_add_29 : decode cX7_add 29 = .ok (.dup, 1) := by decide +kernel
theorem dX7_add_30 : decode cX7_add 30 = .ok (.getfield 15, 3) := by decide +kernel
theorem dX7_add_33 : decode cX7_add 33 = .ok (.iconst 1, 1) := by decide +kernel
theorem dX7_add_34 : decode cX7_add 34 = .ok (.iadd, 1) := by decide +kernel
theorem dX7_add_35 : decode cX7_add 35 = .ok (.putfield 15, 3) := by decide +kernel
theorem dX7_add_38 : decode cX7_add 38 = .ok (.return_, 1) := by decide +kernel
theorem dX7_clear_0 : decode cX7_clear 0 = .ok (.aload_n 0, 1) := by decide +kernel
theorem dX7_clear_1 : decode cX7_clear 1 = .ok (.iconst 0, 1) := by decide +kernel
theorem dX7_clear_2 : decode cX7_clear 2 = .ok (.putfield 15, 3) := by decide +kernel
theorem dX7_clear_5 : decode cX7_clear 5 = .ok (.return_, 1) := by decide +kernel
theorem dX7_rewind_0 : decode cX7_rewind 0 = .ok (.aload_n 0, 1) := by decide +kernel
theorem dX7_rewind_1 : decode cX7_rewind 1 = .ok (.iconst 0, 1) := by decide +kernel
theorem dX7_rewind_2 : decode cX7_rewind 2 = .ok (.putfield 19, 3) := by decide +kernel
theorem dX7_rewind_5 : decode cX7_rewind 5 = .ok (.aload_n 0, 1) := by decide +kernel
theorem dX7_rewind_6 : decode cX7_rewind 6 = .ok (.iconst 0, 1) := by decide +kernel
theorem dX7_rewind_7 : decode cX7_rewind 7 = .ok (.putfield 22, 3) := by decide +kernel
theorem dX7_rewind_10 : decode cX7_rewind 10 = .ok (.aload_n 0, 1) := by decide +kernel
theorem dX7_rewind_11 : decode cX7_rewind 11 = .ok (.iconst 0, 1) := by decide +kernel
theorem dX7_rewind_12 : decode cX7_rewind 12 = .ok (.putfield 25, 3) := by decide +kernel
theorem dX7_rewind_15 : decode cX7_rewind 15 = .ok (.return_, 1) := by decide +kernel
theorem dX7_nextToken_0 : decode cX7_nextToken 0 = .ok (.aload_n 0, 1) := by decide +kernel
theorem dX7_nextToken_1 : decode cX7_nextToken 1 = .ok (.aload_n 0, 1) := by decide +kernel
theorem dX7_nextToken_2 : decode cX7_nextToken 2 = .ok (.getfield 25, 3) := by decide +kernel
theorem dX7_nextToken_5 : decode cX7_nextToken 5 = .ok (.putfield 22, 3) := by decide +kernel
theorem dX7_nextToken_8 : decode cX7_nextToken 8 = .ok (.aload_n 0, 1) := by decide +kernel
theorem dX7_nextToken_9 : decode cX7_nextToken 9 = .ok (.getfield 22, 3) := by decide +kernel
theorem dX7_nextToken_12 : decode cX7_nextToken 12 = .ok (.aload_n 0, 1) := by decide +kernel
theorem dX7_nextToken_13 : decode cX7_nextToken 13 = .ok (.getfield 15, 3) := by decide +kernel
theorem dX7_nextToken_16 : decode cX7_nextToken 16 = .ok (.if_icmp .ge 30, 3) := by decide +kernel
theorem dX7_nextToken_19 : decode cX7_nextToken 19 = .ok (.aload_n 0, 1) := by decide +kernel
theorem dX7_nextToken_20 : decode cX7_nextToken 20 = .ok (.getfield 9, 3) := by decide +kernel
theorem dX7_nextToken_23 : decode cX7_nextToken 23 = .ok (.aload_n 0, 1) := by decide +kernel
theorem dX7_nextToken_24 : decode cX7_nextToken 24 = .ok (.getfield 22, 3) := by decide +kernel
theorem dX7_nextToken_27 : decode cX7_nextToken 27 = .ok (.iaload, 1) := by decide +kernel
theorem dX7_nextToken_28 : decode cX7_nextToken 28 = .ok (.bipush 32, 2) := by decide +kernel
theorem dX7_nextToken_30 : decode cX7_nextToken 30 = .ok (.if_icmp .ne 16, 3) := by decide +kernel
theorem dX7_nextToken_33 : decode cX7_nextToken 33 = .ok (.aload_n 0, 1) := by decide +kernel
theorem dX7_nextToken_34 : decode cX7_nextToken 34 = .ok (.dup, 1) := by decide +kernel
theorem dX7_nextToken_35 : decode cX7_nextToken 35 = .ok (.getfield 22, 3) := by decide +kernel
theorem dX7_nextToken_38 : decode cX7_nextToken 38 = .ok (.iconst 1, 1) := by decide +kernel
theorem dX7_nextToken_39 : decode cX7_nextToken 39 = .ok (.iadd, 1) := by decide +kernel
theorem dX7_nextToken_40 : decode cX7_nextToken 40 = .ok (.putfield 22, 3) := by decide +kernel
theorem dX7_nextToken_43 : decode cX7_nextToken 43 = .ok (.goto (-35), 3) := by decide +kernel
theorem dX7_nextToken_46 : decode cX7_nextToken 46 = .ok (.aload_n 0, 1) := by decide +kernel
theorem dX7_nextToken_47 : decode cX7_nextToken 47 = .ok (.aload_n 0, 1) := by decide +kernel
theorem dX7_nextToken_48 : decode cX7_nextToken 48 = .ok (.getfield 22, 3) := by decide +kernel
theorem dX7_nextToken_51 : decode cX7_nextToken 51 = .ok (.putfield 25, 3) := by decide +kernel
theorem dX7_nextToken_54 : decode cX7_nextToken 54 = .ok (.aload_n 0, 1) := by decide +kernel
theorem dX7_nextToken_55 : decode cX7_nextToken 55 = .ok (.getfield 25, 3) := by decide +kernel
theorem dX7_nextToken_58 : decode cX7_nextToken 58 = .ok (.aload_n 0, 1) := by decide +kernel
theorem dX7_nextToken_59 : decode cX7_nextToken 59 = .ok (.getfield 15, 3) := by decide +kernel
theorem dX7_nextToken_62 : decode cX7_nextToken 62 = .ok (.if_icmp .ge 44, 3) := by decide +kernel
theorem dX7_nextToken_65 : decode cX7_nextToken 65 = .ok (.aload_n 0, 1) := by decide +kernel
theorem dX7_nextToken_66 : decode cX7_nextToken 66 = .ok (.getfield 9, 3) := by decide +kernel
theorem dX7_nextToken_69 : decode cX7_nextToken 69 = .ok (.aload_n 0, 1) := by decide +kernel
theorem dX7_nextToken_70 : decode cX7_nextToken 70 = .ok (.getfield 25, 3) := by decide +kernel
theorem dX7_nextToken_73 : decode cX7_nextToken 73 = .ok (.iaload, 1) := by decide +kernel
theorem dX7_nextToken_74 : decode cX7_nextToken 74 = .ok (.bipush 97, 2) := by decide +kernel
theorem dX7_nextToken_76 : decode cX7_nextToken 76 = .ok (.if_icmp .lt 30, 3) := by decide +kernel
theorem dX7_nextToken_79 : decode cX7_nextToken 79 = .ok (.aload_n 0, 1) := by decide +kernel
theorem dX7_nextToken_80 : decode cX7_nextToken 80 = .ok (.getfield 9, 3) := by decide +kernel
theorem dX7_nextToken_83 : decode cX7_nextToken 83 = .ok (.aload_n 0, 1) := by decide +kernel
theorem dX7_nextToken_84 : decode cX7_nextToken 84 = .ok (.getfield 25, 3) := by decide +kernel
theorem dX7_nextToken_87 : decode cX7_nextToken 87 = .ok (.iaload, 1) := by decide +kernel
theorem dX7_nextToken_88 : decode cX7_nextToken 88 = .ok (.bipush 122, 2) := by decide +kernel
theorem dX7_nextToken_90 : decode cX7_nextToken 90 = .ok (.if_icmp .gt 16, 3) := by decide +kernel
theorem dX7_nextToken_93 : decode cX7_nextToken 93 = .ok (.aload_n 0, 1) := by decide +kernel
theorem dX7_nextToken_94 : decode cX7_nextToken 94 = .ok (.dup, 1) := by decide +kernel
theorem dX7_nextToken_95 : decode cX7_nextToken 95 = .ok (.getfield 25, 3) := by decide +kernel
theorem dX7_nextToken_98 : decode cX7_nextToken 98 = .ok (.iconst 1, 1) := by decide +kernel
theorem dX7_nextToken_99 : decode cX7_nextToken 99 = .ok (.iadd, 1) := by decide +kernel
theorem dX7_nextToken_100 : decode cX7_nextToken 100 = .ok (.putfield 25, 3) := by decide +kernel
theorem dX7_nextToken_103 : decode cX7_nextToken 103 = .ok (.goto (-49), 3) := by decide +kernel
theorem dX7_nextToken_106 : decode cX7_nextToken 106 = .ok (.aload_n 0, 1) := by decide +kernel
theorem dX7_nextToken_107 : decode cX7_nextToken 107 = .ok (.iconst 1, 1) := by decide +kernel
theorem dX7_nextToken_108 : decode cX7_nextToken 108 = .ok (.putfield 19, 3) := by decide +kernel
theorem dX7_nextToken_111 : decode cX7_nextToken 111 = .ok (.aload_n 0, 1) := by decide +kernel
theorem dX7_nextToken_112 : decode cX7_nextToken 112 = .ok (.getfield 25, 3) := by decide +kernel
theorem dX7_nextToken_115 : decode cX7_nextToken 115 = .ok (.aload_n 0, 1) := by decide +kernel
theorem dX7_nextToken_116 : decode cX7_nextToken 116 = .ok (.getfield 22, 3) := by decide +kernel
theorem dX7_nextToken_119 : decode cX7_nextToken 119 = .ok (.if_icmp .le 4, 3) := by decide +kernel
theorem dX7_nextToken_122 : decode cX7_nextToken 122 = .ok (.return_, 1) := by decide +kernel
theorem dX7_nextToken_123 : decode cX7_nextToken 123 = .ok (.aload_n 0, 1) := by decide +kernel
theorem dX7_nextToken_124 : decode cX7_nextToken 124 = .ok (.getfield 25, 3) := by decide +kernel
theorem dX7_nextToken_127 : decode cX7_nextToken 127 = .ok (.aload_n 0, 1) := by decide +kernel
theorem dX7_nextToken_128 : decode cX7_nextToken 128 = .ok (.getfield 15, 3) := by decide +kernel
theorem dX7_nextToken_131 : decode cX7_nextToken 131 = .ok (.if_icmp .ge 44, 3) := by decide +kernel
theorem dX7_nextToken_134 : decode cX7_nextToken 134 = .ok (.aload_n 0, 1) := by decide +kernel
theorem dX7_nextToken_135 : decode cX7_nextToken 135 = .ok (.getfield 9, 3) := by decide +kernel
theorem dX7_nextToken_138 : decode cX7_nextToken 138 = .ok (.aload_n 0, 1) := by decide +kernel
theorem dX7_nextToken_139 : decode cX7_nextToken 139 = .ok (.getfield 25, 3) := by decide +kernel
theorem dX7_nextToken_142 : decode cX7_nextToken 142 = .ok (.iaload, 1) := by decide +kernel
theorem dX7_nextToken_143 : decode cX7_nextToken 143 = .ok (.bipush 48, 2) := by decide +kernel
theorem dX7_nextToken_145 : decode cX7_nextToken 145 = .ok (.if_icmp .lt 30, 3) := by decide +kernel
theorem dX7_nextToken_148 : decode cX7_nextToken 148 = .ok (.aload_n 0, 1) := by decide +kernel
theorem dX7_nextToken_149 : decode cX7_nextToken 149 = .ok (.getfield 9, 3) := by decide +kernel
theorem dX7_nextToken_152 : decode cX7_nextToken 152 = .ok (.aload_n 0, 1) := by decide +kernel
theorem dX7_nextToken_153 : decode cX7_nextToken 153 = .ok (.getfield 25, 3) := by decide +kernel
theorem dX7_nextToken_156 : decode cX7_nextToken 156 = .ok (.iaload, 1) := by decide +kernel
theorem dX7_nextToken_157 : decode cX7_nextToken 157 = .ok (.bipush 57, 2) := by decide +kernel
theorem dX7_nextToken_159 : decode cX7_nextToken 159 = .ok (.if_icmp .gt 16, 3) := by decide +kernel
theorem dX7_nextToken_162 : decode cX7_nextToken 162 = .ok (.aload_n 0, 1) := by decide +kernel
theorem dX7_nextToken_163 : decode cX7_nextToken 163 = .ok (.dup, 1) := by decide +kernel
theorem dX7_nextToken_164 : decode cX7_nextToken 164 = .ok (.getfield 25, 3) := by decide +kernel
theorem dX7_nextToken_167 : decode cX7_nextToken 167 = .ok (.iconst 1, 1) := by decide +kernel
theorem dX7_nextToken_168 : decode cX7_nextToken 168 = .ok (.iadd, 1) := by decide +kernel
theorem dX7_nextToken_169 : decode cX7_nextToken 169 = .ok (.putfield 25, 3) := by decide +kernel
theorem dX7_nextToken_172 : decode cX7_nextToken 172 = .ok (.goto (-49), 3) := by decide +kernel
theorem dX7_nextToken_175 : decode cX7_nextToken 175 = .ok (.aload_n 0, 1) := by decide +kernel
theorem dX7_nextToken_176 : decode cX7_nextToken 176 = .ok (.iconst 2, 1) := by decide +kernel
theorem dX7_nextToken_177 : decode cX7_nextToken 177 = .ok (.putfield 19, 3) := by decide +kernel
theorem dX7_nextToken_180 : decode cX7_nextToken 180 = .ok (.aload_n 0, 1) := by decide +kernel
theorem dX7_nextToken_181 : decode cX7_nextToken 181 = .ok (.getfield 25, 3) := by decide +kernel
theorem dX7_nextToken_184 : decode cX7_nextToken 184 = .ok (.aload_n 0, 1) := by decide +kernel
theorem dX7_nextToken_185 : decode cX7_nextToken 185 = .ok (.getfield 22, 3) := by decide +kernel
theorem dX7_nextToken_188 : decode cX7_nextToken 188 = .ok (.if_icmp .le 4, 3) := by decide +kernel
theorem dX7_nextToken_191 : decode cX7_nextToken 191 = .ok (.return_, 1) := by decide +kernel
theorem dX7_nextToken_192 : decode cX7_nextToken 192 = .ok (.aload_n 0, 1) := by decide +kernel
theorem dX7_nextToken_193 : decode cX7_nextToken 193 = .ok (.iconst 0, 1) := by decide +kernel
theorem dX7_nextToken_194 : decode cX7_nextToken 194 = .ok (.putfield 19, 3) := by decide +kernel
theorem dX7_nextToken_197 : decode cX7_nextToken 197 = .ok (.aload_n 0, 1) := by decide +kernel
theorem dX7_nextToken_198 : decode cX7_nextToken 198 = .ok (.getfield 22, 3) := by decide +kernel
theorem dX7_nextToken_201 : decode cX7_nextToken 201 = .ok (.aload_n 0, 1) := by decide +kernel
theorem dX7_nextToken_202 : decode cX7_nextToken 202 = .ok (.getfield 15, 3) := by decide +kernel
theorem dX7_nextToken_205 : decode cX7_nextToken 205 = .ok (.if_icmp .lt 4, 3) := by decide +kernel
theorem dX7_nextToken_208 : decode cX7_nextToken 208 = .ok (.return_, 1) := by decide +kernel
theorem dX7_nextToken_209 : decode cX7_nextToken 209 = .ok (.aload_n 0, 1) := by decide +kernel
theorem dX7_nextToken_210 : decode cX7_nextToken 210 = .ok (.aload_n 0, 1) := by decide +kernel
theorem dX7_nextToken_211 : decode cX7_nextToken 211 = .ok (.getfield 9, 3) := by decide +kernel
theorem dX7_nextToken_214 : decode cX7_nextToken 214 = .ok (.aload_n 0, 1) := by decide +kernel
theorem dX7_nextToken_215 : decode cX7_nextToken 215 = .ok (.getfield 22, 3) := by decide +kernel
theorem dX7_nextToken_218 : decode cX7_nextToken 218 = .ok (.iaload, 1) := by decide +kernel
theorem dX7_nextToken_219 : decode cX7_nextToken 219 = .ok (.bipush 59, 2) := by decide +kernel
theorem dX7_nextToken_221 : decode cX7_nextToken 221 = .ok (.if_icmp .ne 7, 3) := by decide +kernel
theorem dX7_nextToken_224 : decode cX7_nextToken 224 = .ok (.iconst 3, 1) := by decide +kernel
theorem dX7_nextToken_225 : decode cX7_nextToken 225 = .ok (.goto 4, 3) := by decide +kernel
theorem dX7_nextToken_228 : decode cX7_nextToken 228 = .ok (.iconst 4, 1) := by decide +kernel
theorem dX7_nextToken_229 : decode cX7_nextToken 229 = .ok (.putfield 19, 3) := by decide +kernel
theorem dX7_nextToken_232 : decode cX7_nextToken 232 = .ok (.aload_n 0, 1) := by decide +kernel
theorem dX7_nextToken_233 : decode cX7_nextToken 233 = .ok (.aload_n 0, 1) := by decide +kernel
theorem dX7_nextToken_234 : decode cX7_nextToken 234 = .ok (.getfield 22, 3) := by decide +kernel
theorem dX7_nextToken_237 : decode cX7_nextToken 237 = .ok (.iconst 1, 1) := by decide +kernel
theorem dX7_nextToken_238 : decode cX7_nextToken 238 = .ok (.iadd, 1) := by decide +kernel
theorem dX7_nextToken_239 : decode cX7_nextToken 239 = .ok (.putfield 25, 3) := by decide +kernel
theorem dX7_nextToken_242 : decode cX7_nextToken 242 = .ok (.return_, 1) := by decide +kernel
theorem dX7_isWord_0 : decode cX7_isWord 0 = .ok (.aload_n 0, 1) := by decide +kernel
theorem dX7_isWord_1 : decode cX7_isWord 1 = .ok (.getfield 19, 3) := by decide +kernel
theorem dX7_isWord_4 : decode cX7_isWord 4 = .ok (.iconst 1, 1) := by decide +kernel
theorem dX7_isWord_5 : decode cX7_isWord 5 = .ok (.if_icmp .ne 30, 3) := by decide +kernel
theorem dX7_isWord_8 : decode cX7_isWord 8 = .ok (.aload_n 0, 1) := by decide +kernel
theorem dX7_isWord_9 : decode cX7_isWord 9 = .ok (.getfield 25, 3) := by decide +kernel
theorem dX7_isWord_12 : decode cX7_isWord 12 = .ok (.aload_n 0, 1) := by decide +kernel
theorem dX7_isWord_13 : decode cX7_isWord 13 = .ok (.getfield 22, 3) := by decide +kernel
theorem dX7_isWord_16 : decode cX7_isWord 16 = .ok (.isub, 1) := by decide +kernel
theorem dX7_isWord_17 : decode cX7_isWord 17 = .ok (.aload_n 1, 1) := by decide +kernel
theorem dX7_isWord_18 : decode cX7_isWord 18 = .ok (.invokevirtual 28, 3) := by decide +kernel
theorem dX7_isWord_21 : decode cX7_isWord 21 = .ok (.if_icmp .ne 14, 3) := by decide +kernel
theorem dX7_isWord_24 : decode cX7_isWord 24 = .ok (.aload_n 0, 1) := by decide +kernel
theorem dX7_isWord_25 : decode cX7_isWord 25 = .ok (.getfield 25, 3) := by decide +kernel
theorem dX7_isWord_28 : decode cX7_isWord 28 = .ok (.aload_n 0, 1) := by decide +kernel
theorem dX7_isWord_29 : decode cX7_isWord 29 = .ok (.getfield 15, 3) := by decide +kernel
theorem dX7_isWord_32 : decode cX7_isWord 32 = .ok (.if_icmp .le 5, 3) := by decide +kernel
theorem dX7_isWord_35 : decode cX7_isWord 35 = .ok (.iconst 0, 1) := by decide +kernel
theorem dX7_isWord_36 : decode cX7_isWord 36 = .ok (.ireturn, 1) := by decide +kernel
theorem dX7_isWord_37 : decode cX7_isWord 37 = .ok (.iconst 0, 1) := by decide +kernel
theorem dX7_isWord_38 : decode cX7_isWord 38 = .ok (.istore_n 2, 1) := by decide +kernel
theorem dX7_isWord_39 : decode cX7_isWord 39 = .ok (.iload_n 2, 1) := by decide +kernel
theorem dX7_isWord_40 : decode cX7_isWord 40 = .ok (.aload_n 1, 1) := by decide +kernel
theorem dX7_isWord_41 : decode cX7_isWord 41 = .ok (.invokevirtual 28, 3) := by decide +kernel
theorem dX7_isWord_44 : decode cX7_isWord 44 = .ok (.if_icmp .ge 30, 3) := by decide +kernel
theorem dX7_isWord_47 : decode cX7_isWord 47 = .ok (.aload_n 0, 1) := by decide +kernel
theorem dX7_isWord_48 : decode cX7_isWord 48 = .ok (.getfield 9, 3) := by decide +kernel
theorem dX7_isWord_51 : decode cX7_isWord 51 = .ok (.aload_n 0, 1) := by decide +kernel
theorem dX7_isWord_52 : decode cX7_isWord 52 = .ok (.getfield 22, 3) := by decide +kernel
theorem dX7_isWord_55 : decode cX7_isWord 55 = .ok (.iload_n 2, 1) := by decide +kernel
theorem dX7_isWord_56 : decode cX7_isWord 56 = .ok (.iadd, 1) := by decide +kernel
theorem dX7_isWord_57 : decode cX7_isWord 57 = .ok (.iaload, 1) := by decide +kernel
theorem dX7_isWord_58 : decode cX7_isWord 58 = .ok (.aload_n 1, 1) := by decide +kernel
theorem dX7_isWord_59 : decode cX7_isWord 59 = .ok (.iload_n 2, 1) := by decide +kernel
theorem dX7_isWord_60 : decode cX7_isWord 60 = .ok (.invokevirtual 33, 3) := by decide +kernel
theorem dX7_isWord_63 : decode cX7_isWord 63 = .ok (.if_icmp .eq 5, 3) := by decide +kernel
theorem dX7_isWord_66 : decode cX7_isWord 66 = .ok (.iconst 0, 1) := by decide +kernel
theorem dX7_isWord_67 : decode cX7_isWord 67 = .ok (.ireturn, 1) := by decide +kernel
theorem dX7_isWord_68 : decode cX7_isWord 68 = .ok (.iinc 2 1, 3) := by decide +kernel
theorem dX7_isWord_71 : decode cX7_isWord 71 = .ok (.goto (-32), 3) := by decide +kernel
theorem dX7_isWord_74 : decode cX7_isWord 74 = .ok (.iconst 1, 1) := by decide +kernel
theorem dX7_isWord_75 : decode cX7_isWord 75 = .ok (.ireturn, 1) := by decide +kernel
theorem dX7_value_0 : decode cX7_value 0 = .ok (.aload_n 0, 1) := by decide +kernel
theorem dX7_value_1 : decode cX7_value 1 = .ok (.getfield 19, 3) := by decide +kernel
theorem dX7_value_4 : decode cX7_value 4 = .ok (.iconst 2, 1) := by decide +kernel
theorem dX7_value_5 : decode cX7_value 5 = .ok (.if_icmp .ne 27, 3) := by decide +kernel
theorem dX7_value_8 : decode cX7_value 8 = .ok (.aload_n 0, 1) := by decide +kernel
theorem dX7_value_9 : decode cX7_value 9 = .ok (.getfield 25, 3) := by decide +kernel
theorem dX7_value_12 : decode cX7_value 12 = .ok (.aload_n 0, 1) := by decide +kernel
theorem dX7_value_13 : decode cX7_value 13 = .ok (.getfield 22, 3) := by decide +kernel
theorem dX7_value_16 : decode cX7_value 16 = .ok (.isub, 1) := by decide +kernel
theorem dX7_value_17 : decode cX7_value 17 = .ok (.iconst 3, 1) := by decide +kernel
theorem dX7_value_18 : decode cX7_value 18 = .ok (.if_icmp .gt 14, 3) := by decide +kernel
theorem dX7_value_21 : decode cX7_value 21 = .ok (.aload_n 0, 1) := by decide +kernel
theorem dX7_value_22 : decode cX7_value 22 = .ok (.getfield 25, 3) := by decide +kernel
theorem dX7_value_25 : decode cX7_value 25 = .ok (.aload_n 0, 1) := by decide +kernel
theorem dX7_value_26 : decode cX7_value 26 = .ok (.getfield 15, 3) := by decide +kernel
theorem dX7_value_29 : decode cX7_value 29 = .ok (.if_icmp .le 5, 3) := by decide +kernel
theorem dX7_value_32 : decode cX7_value 32 = .ok (.iconst (-1), 1) := by decide +kernel
theorem dX7_value_33 : decode cX7_value 33 = .ok (.ireturn, 1) := by decide +kernel
theorem dX7_value_34 : decode cX7_value 34 = .ok (.iconst 0, 1) := by decide +kernel
theorem dX7_value_35 : decode cX7_value 35 = .ok (.istore_n 1, 1) := by decide +kernel
theorem dX7_value_36 : decode cX7_value 36 = .ok (.aload_n 0, 1) := by decide +kernel
theorem dX7_value_37 : decode cX7_value 37 = .ok (.getfield 22, 3) := by decide +kernel
theorem dX7_value_40 : decode cX7_value 40 = .ok (.istore_n 2, 1) := by decide +kernel
theorem dX7_value_41 : decode cX7_value 41 = .ok (.iload_n 2, 1) := by decide +kernel
theorem dX7_value_42 : decode cX7_value 42 = .ok (.aload_n 0, 1) := by decide +kernel
theorem dX7_value_43 : decode cX7_value 43 = .ok (.getfield 25, 3) := by decide +kernel
theorem dX7_value_46 : decode cX7_value 46 = .ok (.if_icmp .ge 24, 3) := by decide +kernel
theorem dX7_value_49 : decode cX7_value 49 = .ok (.bipush 10, 2) := by decide +kernel
theorem dX7_value_51 : decode cX7_value 51 = .ok (.iload_n 1, 1) := by decide +kernel
theorem dX7_value_52 : decode cX7_value 52 = .ok (.imul, 1) := by decide +kernel
theorem dX7_value_53 : decode cX7_value 53 = .ok (.aload_n 0, 1) := by decide +kernel
theorem dX7_value_54 : decode cX7_value 54 = .ok (.getfield 9, 3) := by decide +kernel
theorem dX7_value_57 : decode cX7_value 57 = .ok (.iload_n 2, 1) := by decide +kernel
theorem dX7_value_58 : decode cX7_value 58 = .ok (.iaload, 1) := by decide +kernel
theorem dX7_value_59 : decode cX7_value 59 = .ok (.iadd, 1) := by decide +kernel
theorem dX7_value_60 : decode cX7_value 60 = .ok (.bipush 48, 2) := by decide +kernel
theorem dX7_value_62 : decode cX7_value 62 = .ok (.isub, 1) := by decide +kernel
theorem dX7_value_63 : decode cX7_value 63 = .ok (.istore_n 1, 1) := by decide +kernel
theorem dX7_value_64 : decode cX7_value 64 = .ok (.iinc 2 1, 3) := by decide +kernel
theorem dX7_value_67 : decode cX7_value 67 = .ok (.goto (-26), 3) := by decide +kernel
theorem dX7_value_70 : decode cX7_value 70 = .ok (.iload_n 1, 1) := by decide +kernel
theorem dX7_value_71 : decode cX7_value 71 = .ok (.ireturn, 1) := by decide +kernel
theorem dX8_init_0 : decode cX8_init 0 = .ok (.aload_n 0, 1) := by decide +kernel
theorem dX8_init_1 : decode cX8_init 1 = .ok (.invokespecial 3, 3) := by decide +kernel
theorem dX8_init_4 : decode cX8_init 4 = .ok (.aload_n 0, 1) := by decide +kernel
theorem dX8_init_5 : decode cX8_init 5 = .ok (.bipush 40, 2) := by decide +kernel
theorem dX8_init_7 : decode cX8_init 7 = .ok (.newarray .int, 2) := by decide +kernel
theorem dX8_init_9 : decode cX8_init 9 = .ok (.putfield 9, 3) := by decide +kernel
theorem dX8_init_12 : decode cX8_init 12 = .ok (.aload_n 0, 1) := by decide +kernel
theorem dX8_init_13 : decode cX8_init 13 = .ok (.bipush 40, 2) := by decide +kernel
theorem dX8_init_15 : decode cX8_init 15 = .ok (.newarray .int, 2) := by decide +kernel
theorem dX8_init_17 : decode cX8_init 17 = .ok (.putfield 15, 3) := by decide +kernel
theorem dX8_init_20 : decode cX8_init 20 = .ok (.aload_n 0, 1) := by decide +kernel
theorem dX8_init_21 : decode cX8_init 21 = .ok (.aload_n 1, 1) := by decide +kernel
theorem dX8_init_22 : decode cX8_init 22 = .ok (.putfield 18, 3) := by decide +kernel
theorem dX8_init_25 : decode cX8_init 25 = .ok (.aload_n 0, 1) := by decide +kernel
theorem dX8_init_26 : decode cX8_init 26 = .ok (.aload_n 2, 1) := by decide +kernel
theorem dX8_init_27 : decode cX8_init 27 = .ok (.putfield 22, 3) := by decide +kernel
theorem dX8_init_30 : decode cX8_init 30 = .ok (.aload_n 0, 1) := by decide +kernel
theorem dX8_init_31 : decode cX8_init 31 = .ok (.aload_n 3, 1) := by decide +kernel
theorem dX8_init_32 : decode cX8_init 32 = .ok (.putfield 26, 3) := by decide +kernel
theorem dX8_init_35 : decode cX8_init 35 = .ok (.return_, 1) := by decide +kernel
theorem dX8_reckonBorders_0 : decode cX8_reckonBorders 0 = .ok (.iconst 0, 1) := by decide +kernel
theorem dX8_reckonBorders_1 : decode cX8_reckonBorders 1 = .ok (.istore_n 1, 1) := by decide +kernel
theorem dX8_reckonBorders_2 : decode cX8_reckonBorders 2 = .ok (.iload_n 1, 1) := by decide +kernel
theorem dX8_reckonBorders_3 : decode cX8_reckonBorders 3 = .ok (.aload_n 0, 1) := by decide +kernel
theorem dX8_reckonBorders_4 : decode cX8_reckonBorders 4 = .ok (.getfield 18, 3) := by decide +kernel
theorem dX8_reckonBorders_7 : decode cX8_reckonBorders 7 = .ok (.getfield 30, 3) := by decide +kernel
theorem dX8_reckonBorders_10 : decode cX8_reckonBorders 10 = .ok (.if_icmp .ge 53, 3) := by decide +kernel
theorem dX8_reckonBorders_13 : decode cX8_reckonBorders 13 = .ok (.aload_n 0, 1) := by decide +kernel
theorem dX8_reckonBorders_14 : decode cX8_reckonBorders 14 = .ok (.getfield 9, 3) := by decide +kernel
theorem dX8_reckonBorders_17 : decode cX8_reckonBorders 17 = .ok (.iload_n 1, 1) := by decide +kernel
theorem dX8_reckonBorders_18 : decode cX8_reckonBorders 18 = .ok (.aload_n 0, 1) := by decide +kernel
theorem dX8_reckonBorders_19 : decode cX8_reckonBorders 19 = .ok (.getfield 18, 3) := by decide +kernel
theorem dX8_reckonBorders_22 : decode cX8_reckonBorders 22 = .ok (.iconst 0, 1) := by decide +kernel
theorem dX8_reckonBorders_23 : decode cX8_reckonBorders 23 = .ok (.iload_n 1, 1) := by decide +kernel
theorem dX8_reckonBorders_24 : decode cX8_reckonBorders 24 = .ok (.aload_n 0, 1) := by decide +kernel
theorem dX8_reckonBorders_25 : decode cX8_reckonBorders 25 = .ok (.getfield 22, 3) := by decide +kernel
theorem dX8_reckonBorders_28 : decode cX8_reckonBorders 28 = .ok (.getfield 36, 3) := by decide +kernel
theorem dX8_reckonBorders_31 : decode cX8_reckonBorders 31 = .ok (.invokevirtual 41, 3) := by decide +kernel
theorem dX8_reckonBorders_34 : decode cX8_reckonBorders 34 = .ok (.iastore, 1) := by decide +kernel
theorem dX8_reckonBorders_35 : decode cX8_reckonBorders 35 = .ok (.aload_n 0, 1) := by decide +kernel
theorem dX8_reckonBorders_36 : decode cX8_reckonBorders 36 = .ok (.getfield 15, 3) := by decide +kernel
theorem dX8_reckonBorders_39 : decode cX8_reckonBorders 39 = .ok (.iload_n 1, 1) := by decide +kernel
theorem dX8_reckonBorders_40 : decode cX8_reckonBorders 40 = .ok (.aload_n 0, 1) := by decide +kernel
theorem dX8_reckonBorders_41 : decode cX8_reckonBorders 41 = .ok (.getfield 18, 3) := by decide +kernel
theorem dX8_reckonBorders_44 : decode cX8_reckonBorders 44 = .ok (.iconst 1, 1) := by decide +kernel
theorem dX8_reckonBorders_45 : decode cX8_reckonBorders 45 = .ok (.iload_n 1, 1) := by decide +kernel
theorem dX8_reckonBorders_46 : decode cX8_reckonBorders 46 = .ok (.aload_n 0, 1) := by decide +kernel
theorem dX8_reckonBorders_47 : decode cX8_reckonBorders 47 = .ok (.getfield 22, 3) := by decide +kernel
theorem dX8_reckonBorders_50 : decode cX8_reckonBorders 50 = .ok (.getfield 36, 3) := by decide +kernel
theorem dX8_reckonBorders_53 : decode cX8_reckonBorders 53 = .ok (.invokevirtual 41, 3) := by decide +kernel
theorem dX8_reckonBorders_56 : decode cX8_reckonBorders 56 = .ok (.iastore, 1) := by decide +kernel
theorem dX8_reckonBorders_57 : decode cX8_reckonBorders 57 = .ok (.iinc 1 1, 3) := by decide +kernel
theorem dX8_reckonBorders_60 : decode cX8_reckonBorders 60 = .ok (.goto (-58), 3) := by decide +kernel
theorem dX8_reckonBorders_63 : decode cX8_reckonBorders 63 = .ok (.return_, 1) := by decide +kernel
theorem dX8_meanOf_0 : decode cX8_meanOf 0 = .ok (.lconst 0, 1) := by decide +kernel
theorem dX8_meanOf_1 : decode cX8_meanOf 1 = .ok (.lstore_n 2, 1) := by decide +kernel
theorem dX8_meanOf_2 : decode cX8_meanOf 2 = .ok (.iconst 0, 1) := by decide +kernel
theorem dX8_meanOf_3 : decode cX8_meanOf 3 = .ok (.istore 4, 2) := by decide +kernel
theorem dX8_meanOf_5 : decode cX8_meanOf 5 = .ok (.iload 4, 2) := by decide +kernel
theorem dX8_meanOf_7 : decode cX8_meanOf 7 = .ok (.aload_n 0, 1) := by decide +kernel
theorem dX8_meanOf_8 : decode cX8_meanOf 8 = .ok (.getfield 18, 3) := by decide +kernel
theorem dX8_meanOf_11 : decode cX8_meanOf 11 = .ok (.getfield 30, 3) := by decide +kernel
theorem dX8_meanOf_14 : decode cX8_meanOf 14 = .ok (.if_icmp .ge 45, 3) := by decide +kernel
theorem dX8_meanOf_17 : decode cX8_meanOf 17 = .ok (.lload_n 2, 1) := by decide +kernel
theorem dX8_meanOf_18 : decode cX8_meanOf 18 = .ok (.aload_n 0, 1) := by decide +kernel
theorem dX8_meanOf_19 : decode cX8_meanOf 19 = .ok (.getfield 26, 3) := by decide +kernel
theorem dX8_meanOf_22 : decode cX8_meanOf 22 = .ok (.getfield 45, 3) := by decide +kernel
theorem dX8_meanOf_25 : decode cX8_meanOf 25 = .ok (.iload 4, 2) := by decide +kernel
theorem dX8_meanOf_27 : decode cX8_meanOf 27 = .ok (.laload, 1) := by decide +kernel
theorem dX8_meanOf_28 : decode cX8_meanOf 28 = .ok (.iload_n 1, 1) := by decide +kernel
theorem dX8_meanOf_29 : decode cX8_meanOf 29 = .ok (.ifCond .ne 13, 3) := by decide +kernel
theorem dX8_meanOf_32 : decode cX8_meanOf 32 = .ok (.aload_n 0, 1) := by decide +kernel
theorem dX8_meanOf_33 : decode cX8_meanOf 33 = .ok (.getfield 9, 3) := by decide +kernel
theorem dX8_meanOf_36 : decode cX8_meanOf 36 = .ok (.iload 4, 2) := by decide +kernel
theorem dX8_meanOf_38 : decode cX8_meanOf 38 = .ok (.iaload, 1) := by decide +kernel
theorem dX8_meanOf_39 : decode cX8_meanOf 39 = .ok (.goto 10, 3) := by decide +kernel
theorem dX8_meanOf_42 : decode cX8_meanOf 42 = .ok (.aload_n 0, 1) := by decide +kernel
theorem dX8_meanOf_43 : decode cX8_meanOf 43 = .ok (.getfield 15, 3) := by decide +kernel
theorem dX8_meanOf_46 : decode cX8_meanOf 46 = .ok (.iload 4, 2) := by decide +kernel
theorem dX8_meanOf_48 : decode cX8_meanOf 48 = .ok (.iaload, 1) := by decide +kernel
theorem dX8_meanOf_49 : decode cX8_meanOf 49 = .ok (.i2l, 1) := by decide +kernel
theorem dX8_meanOf_50 : decode cX8_meanOf 50 = .ok (.lmul, 1) := by decide +kernel
theorem dX8_meanOf_51 : decode cX8_meanOf 51 = .ok (.ladd, 1) := by decide +kernel
theorem dX8_meanOf_52 : decode cX8_meanOf 52 = .ok (.lstore_n 2, 1) := by decide +kernel
theorem dX8_meanOf_53 : decode cX8_meanOf 53 = .ok (.iinc 4 1, 3) := by decide +kernel
theorem dX8_meanOf_56 : decode cX8_meanOf 56 = .ok (.goto (-51), 3) := by decide +kernel
theorem dX8_meanOf_59 : decode cX8_meanOf 59 = .ok (.lload_n 2, 1) := by decide +kernel
theorem dX8_meanOf_60 : decode cX8_meanOf 60 = .ok (.ldc2_w 51, 3) := by decide +kernel
theorem dX8_meanOf_63 : decode cX8_meanOf 63 = .ok (.ldiv, 1) := by decide +kernel
theorem dX8_meanOf_64 : decode cX8_meanOf 64 = .ok (.l2i, 1) := by decide +kernel
theorem dX8_meanOf_65 : decode cX8_meanOf 65 = .ok (.ireturn, 1) := by decide +kernel
theorem dX8_meanWithLick_0 : decode cX8_meanWithLick 0 = .ok (.aload_n 0, 1) := by decide +kernel
theorem dX8_meanWithLick_1 : decode cX8_meanWithLick 1 = .ok (.getfield 26, 3) := by decide +kernel
theorem dX8_meanWithLick_4 : decode cX8_meanWithLick 4 = .ok (.iload_n 2, 1) := by decide +kernel
theorem dX8_meanWithLick_5 : decode cX8_meanWithLick 5 = .ok (.invokevirtual 53, 3) := by decide +kernel
theorem dX8_meanWithLick_8 : decode cX8_meanWithLick 8 = .ok (.aload_n 0, 1) := by decide +kernel
theorem dX8_meanWithLick_9 : decode cX8_meanWithLick 9 = .ok (.getfield 26, 3) := by decide +kernel
theorem dX8_meanWithLick_12 : decode cX8_meanWithLick 12 = .ok (.aload_n 0, 1) := by decide +kernel
theorem dX8_meanWithLick_13 : decode cX8_meanWithLick 13 = .ok (.getfield 18, 3) := by decide +kernel
theorem dX8_meanWithLick_16 : decode cX8_meanWithLick 16 = .ok (.getfield 57, 3) := by decide +kernel
theorem dX8_meanWithLick_19 : decode cX8_meanWithLick 19 = .ok (.invokevirtual 60, 3) := by decide +kernel
theorem dX8_meanWithLick_22 : decode cX8_meanWithLick 22 = .ok (.aload_n 0, 1) := by decide +kernel
theorem dX8_meanWithLick_23 : decode cX8_meanWithLick 23 = .ok (.iload_n 1, 1) := by decide +kernel
theorem dX8_meanWithLick_24 : decode cX8_meanWithLick 24 = .ok (.invokevirtual 63, 3) := by decide +kernel
theorem dX8_meanWithLick_27 : decode cX8_meanWithLick 27 = .ok (.ireturn, 1) := by decide +kernel
theorem dX8_bestClover_0 : decode cX8_bestClover 0 = .ok (.iconst (-1), 1) := by decide +kernel
theorem dX8_bestClover_1 : decode cX8_bestClover 1 = .ok (.istore 4, 2) := by decide +kernel
theorem dX8_bestClover_3 : decode cX8_bestClover 3 = .ok (.aload_n 0, 1) := by decide +kernel
theorem dX8_bestClover_4 : decode cX8_bestClover 4 = .ok (.getfield 26, 3) := by decide +kernel
theorem dX8_bestClover_7 : decode cX8_bestClover 7 = .ok (.aload_n 0, 1) := by decide +kernel
theorem dX8_bestClover_8 : decode cX8_bestClover 8 = .ok (.getfield 22, 3) := by decide +kernel
theorem dX8_bestClover_11 : decode cX8_bestClover 11 = .ok (.getfield 67, 3) := by decide +kernel
theorem dX8_bestClover_14 : decode cX8_bestClover 14 = .ok (.invokevirtual 53, 3) := by decide +kernel
theorem dX8_bestClover_17 : decode cX8_bestClover 17 = .ok (.aload_n 0, 1) := by decide +kernel
theorem dX8_bestClover_18 : decode cX8_bestClover 18 = .ok (.getfield 18, 3) := by decide +kernel
theorem dX8_bestClover_21 : decode cX8_bestClover 21 = .ok (.iload_n 3, 1) := by decide +kernel
theorem dX8_bestClover_22 : decode cX8_bestClover 22 = .ok (.invokevirtual 70, 3) := by decide +kernel
theorem dX8_bestClover_25 : decode cX8_bestClover 25 = .ok (.ifCond .eq 24, 3) := by decide +kernel
theorem dX8_bestClover_28 : decode cX8_bestClover 28 = .ok (.aload_n 0, 1) := by decide +kernel
theorem dX8_bestClover_29 : decode cX8_bestClover 29 = .ok (.getfield 26, 3) := by decide +kernel
theorem dX8_bestClover_32 : decode cX8_bestClover 32 = .ok (.iload_n 3, 1) := by decide +kernel
theorem dX8_bestClover_33 : decode cX8_bestClover 33 = .ok (.aload_n 0, 1) := by decide +kernel
theorem dX8_bestClover_34 : decode cX8_bestClover 34 = .ok (.getfield 22, 3) := by decide +kernel
theorem dX8_bestClover_37 : decode cX8_bestClover 37 = .ok (.getfield 74, 3) := by decide +kernel
theorem dX8_bestClover_40 : decode cX8_bestClover 40 = .ok (.iload_n 3, 1) := by decide +kernel
theorem dX8_bestClover_41 : decode cX8_bestClover 41 = .ok (.iaload, 1) := by decide +kernel
theorem dX8_bestClover_42 : decode cX8_bestClover 42 = .ok (.iload_n 2, 1) := by decide +kernel
theorem dX8_bestClover_43 : decode cX8_bestClover 43 = .ok (.invokestatic 77, 3) := by decide +kernel
theorem dX8_bestClover_46 : decode cX8_bestClover 46 = .ok (.invokevirtual 81, 3) := by decide +kernel
theorem dX8_bestClover_49 : decode cX8_bestClover 49 = .ok (.iconst 0, 1) := by decide +kernel
theorem dX8_bestClover_50 : decode cX8_bestClover 50 = .ok (.istore 5, 2) := by decide +kernel
theorem dX8_bestClover_52 : decode cX8_bestClover 52 = .ok (.iload 5, 2) := by decide +kernel
theorem dX8_bestClover_54 : decode cX8_bestClover 54 = .ok (.aload_n 0, 1) := by decide +kernel
theorem dX8_bestClover_55 : decode cX8_bestClover 55 = .ok (.getfield 18, 3) := by decide +kernel
theorem dX8_bestClover_58 : decode cX8_bestClover 58 = .ok (.getfield 30, 3) := by decide +kernel
theorem dX8_bestClover_61 : decode cX8_bestClover 61 = .ok (.if_icmp .ge 119, 3) := by decide +kernel
theorem dX8_bestClover_64 : decode cX8_bestClover 64 = .ok (.iload 5, 2) := by decide +kernel
theorem dX8_bestClover_66 : decode cX8_bestClover 66 = .ok (.iload_n 3, 1) := by decide +kernel
theorem dX8_bestClover_67 : decode cX8_bestClover 67 = .ok (.if_icmp .ne 20, 3) := by decide +kernel
theorem dX8_bestClover_70 : decode cX8_bestClover 70 = .ok (.aload_n 0, 1) := by decide +kernel
theorem dX8_bestClover_71 : decode cX8_bestClover 71 = .ok (.getfield 22, 3) := by decide +kernel
theorem dX8_bestClover_74 : decode cX8_bestClover 74 = .ok (.getfield 74, 3) := by decide +kernel
theorem dX8_bestClover_77 : decode cX8_bestClover 77 = .ok (.iload 5, 2) := by decide +kernel
theorem dX8_bestClover_79 : decode cX8_bestClover 79 = .ok (.iaload, 1) := by decide +kernel
theorem dX8_bestClover_80 : decode cX8_bestClover 80 = .ok (.iload_n 2, 1) := by decide +kernel
theorem dX8_bestClover_81 : decode cX8_bestClover 81 = .ok (.invokestatic 77, 3) := by decide +kernel
theorem dX8_bestClover_84 : decode cX8_bestClover 84 = .ok (.goto 13, 3) := by decide +kernel
theorem dX8_bestClover_87 : decode cX8_bestClover 87 = .ok (.aload_n 0, 1) := by decide +kernel
theorem dX8_bestClover_88 : decode cX8_bestClover 88 = .ok (.getfield 22, 3) := by decide +kernel
theorem dX8_bestClover_91 : decode cX8_bestClover 91 = .ok (.getfield 74, 3) := by decide +kernel
theorem dX8_bestClover_94 : decode cX8_bestClover 94 = .ok (.iload 5, 2) := by decide +kernel
theorem dX8_bestClover_96 : decode cX8_bestClover 96 = .ok (.iaload, 1) := by decide +kernel
theorem dX8_bestClover_97 : decode cX8_bestClover 97 = .ok (.istore 6, 2) := by decide +kernel
theorem dX8_bestClover_99 : decode cX8_bestClover 99 = .ok (.aload_n 0, 1) := by decide +kernel
theorem dX8_bestClover_100 : decode cX8_bestClover 100 = .ok (.getfield 26, 3) := by decide +kernel
theorem dX8_bestClover_103 : decode cX8_bestClover 103 = .ok (.iload 5, 2) := by decide +kernel
theorem dX8_bestClover_105 : decode cX8_bestClover 105 = .ok (.iload 6, 2) := by decide +kernel
theorem dX8_bestClover_107 : decode cX8_bestClover 107 = .ok (.iload_n 2, 1) := by decide +kernel
theorem dX8_bestClover_108 : decode cX8_bestClover 108 = .ok (.invokestatic 77, 3) := by decide +kernel
theorem dX8_bestClover_111 : decode cX8_bestClover 111 = .ok (.invokevirtual 81, 3) := by decide +kernel
theorem dX8_bestClover_114 : decode cX8_bestClover 114 = .ok (.aload_n 0, 1) := by decide +kernel
theorem dX8_bestClover_115 : decode cX8_bestClover 115 = .ok (.getfield 26, 3) := by decide +kernel
theorem dX8_bestClover_118 : decode cX8_bestClover 118 = .ok (.aload_n 0, 1) := by decide +kernel
theorem dX8_bestClover_119 : decode cX8_bestClover 119 = .ok (.getfield 18, 3) := by decide +kernel
theorem dX8_bestClover_122 : decode cX8_bestClover 122 = .ok (.getfield 57, 3) := by decide +kernel
theorem dX8_bestClover_125 : decode cX8_bestClover 125 = .ok (.invokevirtual 60, 3) := by decide +kernel
theorem dX8_bestClover_128 : decode cX8_bestClover 128 = .ok (.aload_n 0, 1) := by decide +kernel
theorem dX8_bestClover_129 : decode cX8_bestClover 129 = .ok (.getfield 26, 3) := by decide +kernel
theorem dX8_bestClover_132 : decode cX8_bestClover 132 = .ok (.iload 5, 2) := by decide +kernel
theorem dX8_bestClover_134 : decode cX8_bestClover 134 = .ok (.iload 6, 2) := by decide +kernel
theorem dX8_bestClover_136 : decode cX8_bestClover 136 = .ok (.invokevirtual 81, 3) := by decide +kernel
theorem dX8_bestClover_139 : decode cX8_bestClover 139 = .ok (.aload_n 0, 1) := by decide +kernel
theorem dX8_bestClover_140 : decode cX8_bestClover 140 = .ok (.iload_n 1, 1) := by decide +kernel
theorem dX8_bestClover_141 : decode cX8_bestClover 141 = .ok (.invokevirtual 63, 3) := by decide +kernel
theorem dX8_bestClover_144 : decode cX8_bestClover 144 = .ok (.istore 7, 2) := by decide +kernel
theorem dX8_bestClover_146 : decode cX8_bestClover 146 = .ok (.iload 4, 2) := by decide +kernel
theorem dX8_bestClover_148 : decode cX8_bestClover 148 = .ok (.iconst (-1), 1) := by decide +kernel
theorem dX8_bestClover_149 : decode cX8_bestClover 149 = .ok (.if_icmp .eq 15, 3) := by decide +kernel
theorem dX8_bestClover_152 : decode cX8_bestClover 152 = .ok (.iload 7, 2) := by decide +kernel
theorem dX8_bestClover_154 : decode cX8_bestClover 154 = .ok (.aload_n 0, 1) := by decide +kernel
theorem dX8_bestClover_155 : decode cX8_bestClover 155 = .ok (.getfield 85, 3) := by decide +kernel
theorem dX8_bestClover_158 : decode cX8_bestClover 158 = .ok (.if_icmp .gt 6, 3) := by decide +kernel
theorem dX8_bestClover_161 : decode cX8_bestClover 161 = .ok (.goto 13, 3) := by decide +kernel
theorem dX8_bestClover_164 : decode cX8_bestClover 164 = .ok (.iload 5, 2) := by decide +kernel
theorem dX8_bestClover_166 : decode cX8_bestClover 166 = .ok (.istore 4, 2) := by decide +kernel
theorem dX8_bestClover_168 : decode cX8_bestClover 168 = .ok (.aload_n 0, 1) := by decide +kernel
theorem dX8_bestClover_169 : decode cX8_bestClover 169 = .ok (.iload 7, 2) := by decide +kernel
theorem dX8_bestClover_171 : decode cX8_bestClover 171 = .ok (.putfield 85, 3) := by decide +kernel
theorem dX8_bestClover_174 : decode cX8_bestClover 174 = .ok (.iinc 5 1, 3) := by decide +kernel
theorem dX8_bestClover_177 : decode cX8_bestClover 177 = .ok (.goto (-125), 3) := by decide +kernel
theorem dX8_bestClover_180 : decode cX8_bestClover 180 = .ok (.iload 4, 2) := by decide +kernel
theorem dX8_bestClover_182 : decode cX8_bestClover 182 = .ok (.ireturn, 1) := by decide +kernel
theorem dX8_roundsTillRest_0 : decode cX8_roundsTillRest 0 = .ok (.aload_n 0, 1) := by decide +kernel
theorem dX8_roundsTillRest_1 : decode cX8_roundsTillRest 1 = .ok (.aload_n 0, 1) := by decide +kernel
theorem dX8_roundsTillRest_2 : decode cX8_roundsTillRest 2 = .ok (.iconst 0, 1) := by decide +kernel
theorem dX8_roundsTillRest_3 : decode cX8_roundsTillRest 3 = .ok (.iload_n 1, 1) := by decide +kernel
theorem dX8_roundsTillRest_4 : decode cX8_roundsTillRest 4 = .ok (.iconst (-1), 1) := by decide +kernel
theorem dX8_roundsTillRest_5 : decode cX8_roundsTillRest 5 = .ok (.invokevirtual 88, 3) := by decide +kernel
theorem dX8_roundsTillRest_8 : decode cX8_roundsTillRest 8 = .ok (.putfield 91, 3) := by decide +kernel
theorem dX8_roundsTillRest_11 : decode cX8_roundsTillRest 11 = .ok (.aload_n 0, 1) := by decide +kernel
theorem dX8_roundsTillRest_12 : decode cX8_roundsTillRest 12 = .ok (.aload_n 0, 1) := by decide +kernel
theorem dX8_roundsTillRest_13 : decode cX8_roundsTillRest 13 = .ok (.iconst 1, 1) := by decide +kernel
theorem dX8_roundsTillRest_14 : decode cX8_roundsTillRest 14 = .ok (.iload_n 1, 1) := by decide +kernel
theorem dX8_roundsTillRest_15 : decode cX8_roundsTillRest 15 = .ok (.iconst (-1), 1) := by decide +kernel
theorem dX8_roundsTillRest_16 : decode cX8_roundsTillRest 16 = .ok (.invokevirtual 88, 3) := by decide +kernel
theorem dX8_roundsTillRest_19 : decode cX8_roundsTillRest 19 = .ok (.putfield 94, 3) := by decide +kernel
theorem dX8_roundsTillRest_22 : decode cX8_roundsTillRest 22 = .ok (.iconst 0, 1) := by decide +kernel
theorem dX8_roundsTillRest_23 : decode cX8_roundsTillRest 23 = .ok (.istore_n 2, 1) := by decide +kernel
theorem dX8_roundsTillRest_24 : decode cX8_roundsTillRest 24 = .ok (.iload_n 2, 1) := by decide +kernel
theorem dX8_roundsTillRest_25 : decode cX8_roundsTillRest 25 = .ok (.bipush 20, 2) := by decide +kernel
theorem dX8_roundsTillRest_27 : decode cX8_roundsTillRest 27 = .ok (.if_icmp .ge 67, 3) := by decide +kernel
theorem dX8_roundsTillRest_30 : decode cX8_roundsTillRest 30 = .ok (.aload_n 0, 1) := by decide +kernel
theorem dX8_roundsTillRest_31 : decode cX8_roundsTillRest 31 = .ok (.getfield 91, 3) := by decide +kernel
theorem dX8_roundsTillRest_34 : decode cX8_roundsTillRest 34 = .ok (.istore_n 3, 1) := by decide +kernel
theorem dX8_roundsTillRest_35 : decode cX8_roundsTillRest 35 = .ok (.aload_n 0, 1) := by decide +kernel
theorem dX8_roundsTillRest_36 : decode cX8_roundsTillRest 36 = .ok (.getfield 94, 3) := by decide +kernel
theorem dX8_roundsTillRest_39 : decode cX8_roundsTillRest 39 = .ok (.istore 4, 2) := by decide +kernel
theorem dX8_roundsTillRest_41 : decode cX8_roundsTillRest 41 = .ok (.aload_n 0, 1) := by decide +kernel
theorem dX8_roundsTillRest_42 : decode cX8_roundsTillRest 42 = .ok (.aload_n 0, 1) := by decide +kernel
theorem dX8_roundsTillRest_43 : decode cX8_roundsTillRest 43 = .ok (.iconst 0, 1) := by decide +kernel
theorem dX8_roundsTillRest_44 : decode cX8_roundsTillRest 44 = .ok (.iload_n 1, 1) := by decide +kernel
theorem dX8_roundsTillRest_45 : decode cX8_roundsTillRest 45 = .ok (.aload_n 0, 1) := by decide +kernel
theorem dX8_roundsTillRest_46 : decode cX8_roundsTillRest 46 = .ok (.getfield 94, 3) := by decide +kernel
theorem dX8_roundsTillRest_49 : decode cX8_roundsTillRest 49 = .ok (.invokevirtual 88, 3) := by decide +kernel
theorem dX8_roundsTillRest_52 : decode cX8_roundsTillRest 52 = .ok (.putfield 91, 3) := by decide +kernel
theorem dX8_roundsTillRest_55 : decode cX8_roundsTillRest 55 = .ok (.aload_n 0, 1) := by decide +kernel
theorem dX8_roundsTillRest_56 : decode cX8_roundsTillRest 56 = .ok (.aload_n 0, 1) := by decide +kernel
theorem dX8_roundsTillRest_57 : decode cX8_roundsTillRest 57 = .ok (.iconst 1, 1) := by decide +kernel
theorem dX8_roundsTillRest_58 : decode cX8_roundsTillRest 58 = .ok (.iload_n 1, 1) := by decide +kernel
theorem dX8_roundsTillRest_59 : decode cX8_roundsTillRest 59 = .ok (.aload_n 0, 1) := by decide +kernel
theorem dX8_roundsTillRest_60 : decode cX8_roundsTillRest 60 = .ok (.getfield 91, 3) := by decide +kernel
theorem dX8_roundsTillRest_63 : decode cX8_roundsTillRest 63 = .ok (.invokevirtual 88, 3) := by decide +kernel
theorem dX8_roundsTillRest_66 : decode cX8_roundsTillRest 66 = .ok (.putfield 94, 3) := by decide +kernel
theorem dX8_roundsTillRest_69 : decode cX8_roundsTillRest 69 = .ok (.aload_n 0, 1) := by decide +kernel
theorem dX8_roundsTillRest_70 : decode cX8_roundsTillRest 70 = .ok (.getfield 91, 3) := by decide +kernel
theorem dX8_roundsTillRest_73 : decode cX8_roundsTillRest 73 = .ok (.iload_n 3, 1) := by decide +kernel
theorem dX8_roundsTillRest_74 : decode cX8_roundsTillRest 74 = .ok (.if_icmp .ne 14, 3) := by decide +kernel
theorem dX8_roundsTillRest_77 : decode cX8_roundsTillRest 77 = .ok (.aload_n 0, 1) := by decide +kernel
theorem dX8_roundsTillRest_78 : decode cX8_roundsTillRest 78 = .ok (.getfield 94, 3) := by decide +kernel
theorem dX8_roundsTillRest_81 : decode cX8_roundsTillRest 81 = .ok (.iload 4, 2) := by decide +kernel
theorem dX8_roundsTillRest_83 : decode cX8_roundsTillRest 83 = .ok (.if_icmp .ne 5, 3) := by decide +kernel
theorem dX8_roundsTillRest_86 : decode cX8_roundsTillRest 86 = .ok (.iload_n 2, 1) := by decide +kernel
theorem dX8_roundsTillRest_87 : decode cX8_roundsTillRest 87 = .ok (.ireturn, 1) := by decide +kernel
theorem dX8_roundsTillRest_88 : decode cX8_roundsTillRest 88 = .ok (.iinc 2 1, 3) := by decide +kernel
theorem dX8_roundsTillRest_91 : decode cX8_roundsTillRest 91 = .ok (.goto (-67), 3) := by decide +kernel
theorem dX8_roundsTillRest_94 : decode cX8_roundsTillRest 94 = .ok (.iconst (-1), 1) := by decide +kernel
theorem dX8_roundsTillRest_95 : decode cX8_roundsTillRest 95 = .ok (.ireturn, 1) := by decide +kernel
theorem dX8_fairestCell_0 : decode cX8_fairestCell 0 = .ok (.iconst (-1), 1) := by decide +kernel
theorem dX8_fairestCell_1 : decode cX8_fairestCell 1 = .ok (.istore_n 1, 1) := by decide +kernel
theorem dX8_fairestCell_2 : decode cX8_fairestCell 2 = .ok (.iconst 0, 1) := by decide +kernel
theorem dX8_fairestCell_3 : decode cX8_fairestCell 3 = .ok (.istore_n 2, 1) := by decide +kernel
theorem dX8_fairestCell_4 : decode cX8_fairestCell 4 = .ok (.iload_n 2, 1) := by decide +kernel
theorem dX8_fairestCell_5 : decode cX8_fairestCell 5 = .ok (.aload_n 0, 1) := by decide +kernel
theorem dX8_fairestCell_6 : decode cX8_fairestCell 6 = .ok (.getfield 18, 3) := by decide +kernel
theorem dX8_fairestCell_9 : decode cX8_fairestCell 9 = .ok (.getfield 30, 3) := by decide +kernel
theorem dX8_fairestCell_12 : decode cX8_fairestCell 12 = .ok (.if_icmp .ge 53, 3) := by decide +kernel
theorem dX8_fairestCell_15 : decode cX8_fairestCell 15 = .ok (.aload_n 0, 1) := by decide +kernel
theorem dX8_fairestCell_16 : decode cX8_fairestCell 16 = .ok (.iconst 0, 1) := by decide +kernel
theorem dX8_fairestCell_17 : decode cX8_fairestCell 17 = .ok (.iload_n 2, 1) := by decide +kernel
theorem dX8_fairestCell_18 : decode cX8_fairestCell 18 = .ok (.invokevirtual 97, 3) := by decide +kernel
theorem dX8_fairestCell_21 : decode cX8_fairestCell 21 = .ok (.istore_n 3, 1) := by decide +kernel
theorem dX8_fairestCell_22 : decode cX8_fairestCell 22 = .ok (.iload_n 3, 1) := by decide +kernel
theorem dX8_fairestCell_23 : decode cX8_fairestCell 23 = .ok (.aload_n 0, 1) := by decide +kernel
theorem dX8_fairestCell_24 : decode cX8_fairestCell 24 = .ok (.iconst 1, 1) := by decide +kernel
theorem dX8_fairestCell_25 : decode cX8_fairestCell 25 = .ok (.invokevirtual 63, 3) := by decide +kernel
theorem dX8_fairestCell_28 : decode cX8_fairestCell 28 = .ok (.isub, 1) := by decide +kernel
theorem dX8_fairestCell_29 : decode cX8_fairestCell 29 = .ok (.invokestatic 100, 3) := by decide +kernel
theorem dX8_fairestCell_32 : decode cX8_fairestCell 32 = .ok (.istore 4, 2) := by decide +kernel
theorem dX8_fairestCell_34 : decode cX8_fairestCell 34 = .ok (.iload_n 1, 1) := by decide +kernel
theorem dX8_fairestCell_35 : decode cX8_fairestCell 35 = .ok (.iconst (-1), 1) := by decide +kernel
theorem dX8_fairestCell_36 : decode cX8_fairestCell 36 = .ok (.if_icmp .eq 15, 3) := by decide +kernel
theorem dX8_fairestCell_39 : decode cX8_fairestCell 39 = .ok (.iload 4, 2) := by decide +kernel
theorem dX8_fairestCell_41 : decode cX8_fairestCell 41 = .ok (.aload_n 0, 1) := by decide +kernel
theorem dX8_fairestCell_42 : decode cX8_fairestCell 42 = .ok (.getfield 105, 3) := by decide +kernel
theorem dX8_fairestCell_45 : decode cX8_fairestCell 45 = .ok (.if_icmp .lt 6, 3) := by decide +kernel
theorem dX8_fairestCell_48 : decode cX8_fairestCell 48 = .ok (.goto 11, 3) := by decide +kernel
theorem dX8_fairestCell_51 : decode cX8_fairestCell 51 = .ok (.iload_n 2, 1) := by decide +kernel
theorem dX8_fairestCell_52 : decode cX8_fairestCell 52 = .ok (.istore_n 1, 1) := by decide +kernel
theorem dX8_fairestCell_53 : decode cX8_fairestCell 53 = .ok (.aload_n 0, 1) := by decide +kernel
theorem dX8_fairestCell_54 : decode cX8_fairestCell 54 = .ok (.iload 4, 2) := by decide +kernel
theorem dX8_fairestCell_56 : decode cX8_fairestCell 56 = .ok (.putfield 105, 3) := by decide +kernel
theorem dX8_fairestCell_59 : decode cX8_fairestCell 59 = .ok (.iinc 2 1, 3) := by decide +kernel
theorem dX8_fairestCell_62 : decode cX8_fairestCell 62 = .ok (.goto (-58), 3) := by decide +kernel
theorem dX8_fairestCell_65 : decode cX8_fairestCell 65 = .ok (.iload_n 1, 1) := by decide +kernel
theorem dX8_fairestCell_66 : decode cX8_fairestCell 66 = .ok (.ireturn, 1) := by decide +kernel
theorem dX9_init_0 : decode cX9_init 0 = .ok (.aload_n 0, 1) := by decide +kernel
theorem dX9_init_1 : decode cX9_init 1 = .ok (.invokespecial 1, 3) := by decide +kernel
theorem dX9_init_4 : decode cX9_init 4 = .ok (.aload_n 0, 1) := by decide +kernel
theorem dX9_init_5 : decode cX9_init 5 = .ok (.new 7, 3) := by decide +kernel
theorem dX9_init_8 : decode cX9_init 8 = .ok (.dup, 1) := by decide +kernel
theorem dX9_init_9 : decode cX9_init 9 = .ok (.invokespecial 9, 3) := by decide +kernel
theorem dX9_init_12 : decode cX9_init 12 = .ok (.putfield 10, 3) := by decide +kernel
theorem dX9_init_15 : decode cX9_init 15 = .ok (.aload_n 0, 1) := by decide +kernel
theorem dX9_init_16 : decode cX9_init 16 = .ok (.new 16, 3) := by decide +kernel
theorem dX9_init_19 : decode cX9_init 19 = .ok (.dup, 1) := by decide +kernel
theorem dX9_init_20 : decode cX9_init 20 = .ok (.aload_n 0, 1) := by decide +kernel
theorem dX9_init_21 : decode cX9_init 21 = .ok (.getfield 10, 3) := by decide +kernel
theorem dX9_init_24 : decode cX9_init 24 = .ok (.invokespecial 18, 3) := by decide +kernel
theorem dX9_init_27 : decode cX9_init 27 = .ok (.putfield 21, 3) := by decide +kernel
theorem dX9_init_30 : decode cX9_init 30 = .ok (.aload_n 0, 1) := by decide +kernel
theorem dX9_init_31 : decode cX9_init 31 = .ok (.new 25, 3) := by decide +kernel
theorem dX9_init_34 : decode cX9_init 34 = .ok (.dup, 1) := by decide +kernel
theorem dX9_init_35 : decode cX9_init 35 = .ok (.invokespecial 27, 3) := by decide +kernel
theorem dX9_init_38 : decode cX9_init 38 = .ok (.putfield 28, 3) := by decide +kernel
theorem dX9_init_41 : decode cX9_init 41 = .ok (.aload_n 0, 1) := by decide +kernel
theorem dX9_init_42 : decode cX9_init 42 = .ok (.new 32, 3) := by decide +kernel
theorem dX9_init_45 : decode cX9_init 45 = .ok (.dup, 1) := by decide +kernel
theorem dX9_init_46 : decode cX9_init 46 = .ok (.aload_n 0, 1) := by decide +kernel
theorem dX9_init_47 : decode cX9_init 47 = .ok (.getfield 28, 3) := by decide +kernel
theorem dX9_init_50 : decode cX9_init 50 = .ok (.invokespecial 34, 3) := by decide +kernel
theorem dX9_init_53 : decode cX9_init 53 = .ok (.putfield 37, 3) := by decide +kernel
theorem dX9_init_56 : decode cX9_init 56 = .ok (.aload_n 0, 1) := by decide +kernel
theorem dX9_init_57 : decode cX9_init 57 = .ok (.new 41, 3) := by decide +kernel
theorem dX9_init_60 : decode cX9_init 60 = .ok (.dup, 1) := by decide +kernel
theorem dX9_init_61 : decode cX9_init 61 = .ok (.aload_n 0, 1) := by decide +kernel
theorem dX9_init_62 : decode cX9_init 62 = .ok (.getfield 28, 3) := by decide +kernel
theorem dX9_init_65 : decode cX9_init 65 = .ok (.invokespecial 43, 3) := by decide +kernel
theorem dX9_init_68 : decode cX9_init 68 = .ok (.putfield 44, 3) := by decide +kernel
theorem dX9_init_71 : decode cX9_init 71 = .ok (.aload_n 0, 1) := by decide +kernel
theorem dX9_init_72 : decode cX9_init 72 = .ok (.new 41, 3) := by decide +kernel
theorem dX9_init_75 : decode cX9_init 75 = .ok (.dup, 1) := by decide +kernel
theorem dX9_init_76 : decode cX9_init 76 = .ok (.aload_n 0, 1) := by decide +kernel
theorem dX9_init_77 : decode cX9_init 77 = .ok (.getfield 28, 3) := by decide +kernel
theorem dX9_init_80 : decode cX9_init 80 = .ok (.invokespecial 43, 3) := by decide +kernel
theorem dX9_init_83 : decode cX9_init 83 = .ok (.putfield 48, 3) := by decide +kernel
theorem dX9_init_86 : decode cX9_init 86 = .ok (.aload_n 0, 1) := by decide +kernel
theorem dX9_init_87 : decode cX9_init 87 = .ok (.new 51, 3) := by decide +kernel
theorem dX9_init_90 : decode cX9_init 90 = .ok (.dup, 1) := by decide +kernel
theorem dX9_init_91 : decode cX9_init 91 = .ok (.aload_n 0, 1) := by decide +kernel
theorem dX9_init_92 : decode cX9_init 92 = .ok (.getfield 28, 3) := by decide +kernel
theorem dX9_init_95 : decode cX9_init 95 = .ok (.aload_n 0, 1) := by decide +kernel
theorem dX9_init_96 : decode cX9_init 96 = .ok (.getfield 37, 3) := by decide +kernel
theorem dX9_init_99 : decode cX9_init 99 = .ok (.invokespecial 53, 3) := by decide +kernel
theorem dX9_init_102 : decode cX9_init 102 = .ok (.putfield 56, 3) := by decide +kernel
theorem dX9_init_105 : decode cX9_init 105 = .ok (.aload_n 0, 1) := by decide +kernel
theorem dX9_init_106 : decode cX9_init 106 = .ok (.new 60, 3) := by decide +kernel
theorem dX9_init_109 : decode cX9_init 109 = .ok (.dup, 1) := by decide +kernel
theorem dX9_init_110 : decode cX9_init 110 = .ok (.aload_n 0, 1) := by decide +kernel
theorem dX9_init_111 : decode cX9_init 111 = .ok (.getfield 28, 3) := by decide +kernel
theorem dX9_init_114 : decode cX9_init 114 = .ok (.aload_n 0, 1) := by decide +kernel
theorem dX9_init_115 : decode cX9_init 115 = .ok (.getfield 37, 3) := by decide +kernel
theorem dX9_init_118 : decode cX9_init 118 = .ok (.aload_n 0, 1) := by decide +kernel
theorem dX9_init_119 : decode cX9_init 119 = .ok (.getfield 56, 3) := by decide +kernel
theorem dX9_init_122 : decode cX9_init 122 = .ok (.invokespecial 62, 3) := by decide +kernel
theorem dX9_init_125 : decode cX9_init 125 = .ok (.putfield 65, 3) := by decide +kernel
theorem dX9_init_128 : decode cX9_init 128 = .ok (.aload_n 0, 1) := by decide +kernel
theorem dX9_init_129 : decode cX9_init 129 = .ok (.new 69, 3) := by decide +kernel
theorem dX9_init_132 : decode cX9_init 132 = .ok (.dup, 1) := by decide +kernel
theorem dX9_init_133 : decode cX9_init 133 = .ok (.aload_n 0, 1) := by decide +kernel
theorem dX9_init_134 : decode cX9_init 134 = .ok (.getfield 28, 3) := by decide +kernel
theorem dX9_init_137 : decode cX9_init 137 = .ok (.aload_n 0, 1) := by decide +kernel
theorem dX9_init_138 : decode cX9_init 138 = .ok (.getfield 37, 3) := by decide +kernel
theorem dX9_init_141 : decode cX9_init 141 = .ok (.invokespecial 71, 3) := by decide +kernel
theorem dX9_init_144 : decode cX9_init 144 = .ok (.putfield 72, 3) := by decide +kernel
theorem dX9_init_147 : decode cX9_init 147 = .ok (.aload_n 0, 1) := by decide +kernel
theorem dX9_init_148 : decode cX9_init 148 = .ok (.new 76, 3) := by decide +kernel
theorem dX9_init_151 : decode cX9_init 151 = .ok (.dup, 1) := by decide +kernel
theorem dX9_init_152 : decode cX9_init 152 = .ok (.aload_n 0, 1) := by decide +kernel
theorem dX9_init_153 : decode cX9_init 153 = .ok (.getfield 28, 3) := by decide +kernel
theorem dX9_init_156 : decode cX9_init 156 = .ok (.invokespecial 78, 3) := by decide +kernel
theorem dX9_init_159 : decode cX9_init 159 = .ok (.putfield 79, 3) := by decide +kernel
theorem dX9_init_162 : decode cX9_init 162 = .ok (.return_, 1) := by decide +kernel
theorem dX9_feed_0 : decode cX9_feed 0 = .ok (.iload_n 1, 1) := by decide +kernel
theorem dX9_feed_1 : decode cX9_feed 1 = .ok (.iconst 1, 1) := by decide +kernel
theorem dX9_feed_2 : decode cX9_feed 2 = .ok (.if_icmp .lt 9, 3) := by decide +kernel
theorem dX9_feed_5 : decode cX9_feed 5 = .ok (.iload_n 1, 1) := by decide +kernel
theorem dX9_feed_6 : decode cX9_feed 6 = .ok (.bipush 8, 2) := by decide +kernel
theorem dX9_feed_8 : decode cX9_feed 8 = .ok (.if_icmp .le 6, 3) := by decide +kernel
theorem dX9_feed_11 : decode cX9_feed 11 = .ok (.ldc 83, 2) := by decide +kernel
theorem dX9_feed_13 : decode cX9_feed 13 = .ok (.ireturn, 1) := by decide +kernel
theorem dX9_feed_14 : decode cX9_feed 14 = .ok (.aload_n 0, 1) := by decide +kernel
theorem dX9_feed_15 : decode cX9_feed 15 = .ok (.getfield 10, 3) := by decide +kernel
theorem dX9_feed_18 : decode cX9_feed 18 = .ok (.getfield 84, 3) := by decide +kernel
theorem dX9_feed_21 : decode cX9_feed 21 = .ok (.iload_n 1, 1) := by decide +kernel
theorem dX9_feed_22 : decode cX9_feed 22 = .ok (.iadd, 1) := by decide +kernel
theorem dX9_feed_23 : decode cX9_feed 23 = .ok (.sipush 500, 3) := by decide +kernel
theorem dX9_feed_26 : decode cX9_feed 26 = .ok (.if_icmp .le 6, 3) := by decide +kernel
theorem dX9_feed_29 : decode cX9_feed 29 = .ok (.ldc 88, 2) := by decide +kernel
theorem dX9_feed_31 : decode cX9_feed 31 = .ok (.ireturn, 1) := by decide +kernel
theorem dX9_feed_32 : decode cX9_feed 32 = .ok (.iload_n 1, 1) := by decide +kernel
theorem dX9_feed_33 : decode cX9_feed 33 = .ok (.iconst 1, 1) := by decide +kernel
theorem dX9_feed_34 : decode cX9_feed 34 = .ok (.isub, 1) := by decide +kernel
theorem dX9_feed_35 : decode cX9_feed 35 = .ok (.istore 4, 2) := by decide +kernel
theorem dX9_feed_37 : decode cX9_feed 37 = .ok (.iload 4, 2) := by decide +kernel
theorem dX9_feed_39 : decode cX9_feed 39 = .ok (.ifCond .lt 28, 3) := by decide +kernel
theorem dX9_feed_42 : decode cX9_feed 42 = .ok (.aload_n 0, 1) := by decide +kernel
theorem dX9_feed_43 : decode cX9_feed 43 = .ok (.getfield 10, 3) := by decide +kernel
theorem dX9_feed_46 : decode cX9_feed 46 = .ok (.lload_n 2, 1) := by decide +kernel
theorem dX9_feed_47 : decode cX9_feed 47 = .ok (.bipush 8, 2) := by decide +kernel
theorem dX9_feed_49 : decode cX9_feed 49 = .ok (.iload 4, 2) := by decide +kernel
theorem dX9_feed_51 : decode cX9_feed 51 = .ok (.imul, 1) := by decide +kernel
theorem dX9_feed_52 : decode cX9_feed 52 = .ok (.lushr, 1) := by decide +kernel
theorem dX9_feed_53 : decode cX9_feed 53 = .ok (.l2i, 1) := by decide +kernel
theorem dX9_feed_54 : decode cX9_feed 54 = .ok (.sipush 255, 3) := by decide +kernel
theorem dX9_feed_57 : decode cX9_feed 57 = .ok (.iand, 1) := by decide +kernel
theorem dX9_feed_58 : decode cX9_feed 58 = .ok (.invokevirtual 89, 3) := by decide +kernel
theorem dX9_feed_61 : decode cX9_feed 61 = .ok (.iinc 4 (-1), 3) := by decide +kernel
theorem dX9_feed_64 : decode cX9_feed 64 = .ok (.goto (-27), 3) := by decide +kernel
theorem dX9_feed_67 : decode cX9_feed 67 = .ok (.aload_n 0, 1) := by decide +kernel
theorem dX9_feed_68 : decode cX9_feed 68 = .ok (.getfield 10, 3) := by decide +kernel
theorem dX9_feed_71 : decode cX9_feed 71 = .ok (.getfield 84, 3) := by decide +kernel
theorem dX9_feed_74 : decode cX9_feed 74 = .ok (.ireturn, 1) := by decide +kernel
theorem dX9_meadow_0 : decode cX9_meadow 0 = .ok (.aload_n 0, 1) := by decide +kernel
theorem dX9_meadow_1 : decode cX9_meadow 1 = .ok (.getfield 21, 3) := by decide +kernel
theorem dX9_meadow_4 : decode cX9_meadow 4 = .ok (.invokevirtual 93, 3) := by decide +kernel
theorem dX9_meadow_7 : decode cX9_meadow 7 = .ok (.istore_n 1, 1) := by decide +kernel
theorem dX9_meadow_8 : decode cX9_meadow 8 = .ok (.aload_n 0, 1) := by decide +kernel
theorem dX9_meadow_9 : decode cX9_meadow 9 = .ok (.getfield 10, 3) := by decide +kernel
theorem dX9_meadow_12 : decode cX9_meadow 12 = .ok (.invokevirtual 97, 3) := by decide +kernel
theorem dX9_meadow_15 : decode cX9_meadow 15 = .ok (.iload_n 1, 1) := by decide +kernel
theorem dX9_meadow_16 : decode cX9_meadow 16 = .ok (.ifCond .ge 5, 3) := by decide +kernel
theorem dX9_meadow_19 : decode cX9_meadow 19 = .ok (.iload_n 1, 1) := by decide +kernel
theorem dX9_meadow_20 : decode cX9_meadow 20 = .ok (.ireturn, 1) := by decide +kernel
theorem dX9_meadow_21 : decode cX9_meadow 21 = .ok (.aload_n 0, 1) := by decide +kernel
theorem dX9_meadow_22 : decode cX9_meadow 22 = .ok (.getfield 28, 3) := by decide +kernel
theorem dX9_meadow_25 : decode cX9_meadow 25 = .ok (.aload_n 0, 1) := by decide +kernel
theorem dX9_meadow_26 : decode cX9_meadow 26 = .ok (.getfield 21, 3) := by decide +kernel
theorem dX9_meadow_29 : decode cX9_meadow 29 = .ok (.getfield 100, 3) := by decide +kernel
theorem dX9_meadow_32 : decode cX9_meadow 32 = .ok (.invokevirtual 103, 3) := by decide +kernel
theorem dX9_meadow_35 : decode cX9_meadow 35 = .ok (.aload_n 0, 1) := by decide +kernel
theorem dX9_meadow_36 : decode cX9_meadow 36 = .ok (.getfield 37, 3) := by decide +kernel
theorem dX9_meadow_39 : decode cX9_meadow 39 = .ok (.invokevirtual 106, 3) := by decide +kernel
theorem dX9_meadow_42 : decode cX9_meadow 42 = .ok (.aload_n 0, 1) := by decide +kernel
theorem dX9_meadow_43 : decode cX9_meadow 43 = .ok (.getfield 44, 3) := by decide +kernel
theorem dX9_meadow_46 : decode cX9_meadow 46 = .ok (.iconst 0, 1) := by decide +kernel
theorem dX9_meadow_47 : decode cX9_meadow 47 = .ok (.putfield 109, 3) := by decide +kernel
theorem dX9_meadow_50 : decode cX9_meadow 50 = .ok (.aload_n 0, 1) := by decide +kernel
theorem dX9_meadow_51 : decode cX9_meadow 51 = .ok (.getfield 48, 3) := by decide +kernel
theorem dX9_meadow_54 : decode cX9_meadow 54 = .ok (.iconst 0, 1) := by decide +kernel
theorem dX9_meadow_55 : decode cX9_meadow 55 = .ok (.putfield 109, 3) := by decide +kernel
theorem dX9_meadow_58 : decode cX9_meadow 58 = .ok (.aload_n 0, 1) := by decide +kernel
theorem dX9_meadow_59 : decode cX9_meadow 59 = .ok (.getfield 72, 3) := by decide +kernel
theorem dX9_meadow_62 : decode cX9_meadow 62 = .ok (.iconst 0, 1) := by decide +kernel
theorem dX9_meadow_63 : decode cX9_meadow 63 = .ok (.putfield 113, 3) := by decide +kernel
theorem dX9_meadow_66 : decode cX9_meadow 66 = .ok (.aload_n 0, 1) := by decide +kernel
theorem dX9_meadow_67 : decode cX9_meadow 67 = .ok (.getfield 79, 3) := by decide +kernel
theorem dX9_meadow_70 : decode cX9_meadow 70 = .ok (.iconst 0, 1) := by decide +kernel
theorem dX9_meadow_71 : decode cX9_meadow 71 = .ok (.putfield 116, 3) := by decide +kernel
theorem dX9_meadow_74 : decode cX9_meadow 74 = .ok (.iload_n 1, 1) := by decide +kernel
theorem dX9_meadow_75 : decode cX9_meadow 75 = .ok (.ireturn, 1) := by decide +kernel
theorem dX9_fault_0 : decode cX9_fault 0 = .ok (.aload_n 0, 1) := by decide +kernel
theorem dX9_fault_1 : decode cX9_fault 1 = .ok (.getfield 21, 3) := by decide +kernel
theorem dX9_fault_4 : decode cX9_fault 4 = .ok (.getfield 117, 3) := by decide +kernel
theorem dX9_fault_7 : decode cX9_fault 7 = .ok (.ireturn, 1) := by decide +kernel
theorem dX9_told_0 : decode cX9_told 0 = .ok (.iload_n 1, 1) := by decide +kernel
theorem dX9_told_1 : decode cX9_told 1 = .ok (.tableswitch 192 0 12 #[67, 75, 83, 91, 99, 107, 122, 137, 152, 160, 168, 176, 184], 67) := by decide +kernel
theorem dX9_told_68 : decode cX9_told 68 = .ok (.aload_n 0, 1) := by decide +kernel
theorem dX9_told_69 : decode cX9_told 69 = .ok (.getfield 28, 3) := by decide +kernel
theorem dX9_told_72 : decode cX9_told 72 = .ok (.getfield 120, 3) := by decide +kernel
theorem dX9_told_75 : decode cX9_told 75 = .ok (.ireturn, 1) := by decide +kernel
theorem dX9_told_76 : decode cX9_told 76 = .ok (.aload_n 0, 1) := by decide +kernel
theorem dX9_told_77 : decode cX9_told 77 = .ok (.getfield 28, 3) := by decide +kernel
theorem dX9_told_80 : decode cX9_told 80 = .ok (.getfield 123, 3) := by decide +kernel
theorem dX9_told_83 : decode cX9_told 83 = .ok (.ireturn, 1) := by decide +kernel
theorem dX9_told_84 : decode cX9_told 84 = .ok (.aload_n 0, 1) := by decide +kernel
theorem dX9_told_85 : decode cX9_told 85 = .ok (.getfield 10, 3) := by decide +kernel
theorem dX9_told_88 : decode cX9_told 88 = .ok (.getfield 84, 3) := by decide +kernel
theorem dX9_told_91 : decode cX9_told 91 = .ok (.ireturn, 1) := by decide +kernel
theorem dX9_told_92 : decode cX9_told 92 = .ok (.aload_n 0, 1) := by decide +kernel
theorem dX9_told_93 : decode cX9_told 93 = .ok (.getfield 37, 3) := by decide +kernel
theorem dX9_told_96 : decode cX9_told 96 = .ok (.getfield 126, 3) := by decide +kernel
theorem dX9_told_99 : decode cX9_told 99 = .ok (.ireturn, 1) := by decide +kernel
theorem dX9_told_100 : decode cX9_told 100 = .ok (.aload_n 0, 1) := by decide +kernel
theorem dX9_told_101 : decode cX9_told 101 = .ok (.getfield 28, 3) := by decide +kernel
theorem dX9_told_104 : decode cX9_told 104 = .ok (.getfield 129, 3) := by decide +kernel
theorem dX9_told_107 : decode cX9_told 107 = .ok (.ireturn, 1) := by decide +kernel
theorem dX9_told_108 : decode cX9_told 108 = .ok (.aload_n 0, 1) := by decide +kernel
theorem dX9_told_109 : decode cX9_told 109 = .ok (.getfield 28, 3) := by decide +kernel
theorem dX9_told_112 : decode cX9_told 112 = .ok (.aload_n 0, 1) := by decide +kernel
theorem dX9_told_113 : decode cX9_told 113 = .ok (.getfield 37, 3) := by decide +kernel
theorem dX9_told_116 : decode cX9_told 116 = .ok (.getfield 132, 3) := by decide +kernel
theorem dX9_told_119 : decode cX9_told 119 = .ok (.invokevirtual 135, 3) := by decide +kernel
theorem dX9_told_122 : decode cX9_told 122 = .ok (.ireturn, 1) := by decide +kernel
theorem dX9_told_123 : decode cX9_told 123 = .ok (.aload_n 0, 1) := by decide +kernel
theorem dX9_told_124 : decode cX9_told 124 = .ok (.getfield 28, 3) := by decide +kernel
theorem dX9_told_127 : decode cX9_told 127 = .ok (.aload_n 0, 1) := by decide +kernel
theorem dX9_told_128 : decode cX9_told 128 = .ok (.getfield 37, 3) := by decide +kernel
theorem dX9_told_131 : decode cX9_told 131 = .ok (.getfield 139, 3) := by decide +kernel
theorem dX9_told_134 : decode cX9_told 134 = .ok (.invokevirtual 135, 3) := by decide +kernel
theorem dX9_told_137 : decode cX9_told 137 = .ok (.ireturn, 1) := by decide +kernel
theorem dX9_told_138 : decode cX9_told 138 = .ok (.aload_n 0, 1) := by decide +kernel
theorem dX9_told_139 : decode cX9_told 139 = .ok (.getfield 28, 3) := by decide +kernel
theorem dX9_told_142 : decode cX9_told 142 = .ok (.aload_n 0, 1) := by decide +kernel
theorem dX9_told_143 : decode cX9_told 143 = .ok (.getfield 37, 3) := by decide +kernel
theorem dX9_told_146 : decode cX9_told 146 = .ok (.getfield 142, 3) := by decide +kernel
theorem dX9_told_149 : decode cX9_told 149 = .ok (.invokevirtual 135, 3) := by decide +kernel
theorem dX9_told_152 : decode cX9_told 152 = .ok (.ireturn, 1) := by decide +kernel
theorem dX9_told_153 : decode cX9_told 153 = .ok (.aload_n 0, 1) := by decide +kernel
theorem dX9_told_154 : decode cX9_told 154 = .ok (.getfield 37, 3) := by decide +kernel
theorem dX9_told_157 : decode cX9_told 157 = .ok (.getfield 145, 3) := by decide +kernel
theorem dX9_told_160 : decode cX9_told 160 = .ok (.ireturn, 1) := by decide +kernel
theorem dX9_told_161 : decode cX9_told 161 = .ok (.aload_n 0, 1) := by decide +kernel
theorem dX9_told_162 : decode cX9_told 162 = .ok (.getfield 37, 3) := by decide +kernel
theorem dX9_told_165 : decode cX9_told 165 = .ok (.getfield 148, 3) := by decide +kernel
theorem dX9_told_168 : decode cX9_told 168 = .ok (.ireturn, 1) := by decide +kernel
theorem dX9_told_169 : decode cX9_told 169 = .ok (.aload_n 0, 1) := by decide +kernel
theorem dX9_told_170 : decode cX9_told 170 = .ok (.getfield 37, 3) := by decide +kernel
theorem dX9_told_173 : decode cX9_told 173 = .ok (.getfield 151, 3) := by decide +kernel
theorem dX9_told_176 : decode cX9_told 176 = .ok (.ireturn, 1) := by decide +kernel
theorem dX9_told_177 : decode cX9_told 177 = .ok (.aload_n 0, 1) := by decide +kernel
theorem dX9_told_178 : decode cX9_told 178 = .ok (.getfield 72, 3) := by decide +kernel
theorem dX9_told_181 : decode cX9_told 181 = .ok (.getfield 113, 3) := by decide +kernel
theorem dX9_told_184 : decode cX9_told 184 = .ok (.ireturn, 1) := by decide +kernel
theorem dX9_told_185 : decode cX9_told 185 = .ok (.aload_n 0, 1) := by decide +kernel
theorem dX9_told_186 : decode cX9_told 186 = .ok (.getfield 79, 3) := by decide +kernel
theorem dX9_told_189 : decode cX9_told 189 = .ok (.getfield 116, 3) := by decide +kernel
theorem dX9_told_192 : decode cX9_told 192 = .ok (.ireturn, 1) := by decide +kernel
theorem dX9_told_193 : decode cX9_told 193 = .ok (.ldc 83, 2) := by decide +kernel
theorem dX9_told_195 : decode cX9_told 195 = .ok (.ireturn, 1) := by decide +kernel
theorem dX9_cell_0 : decode cX9_cell 0 = .ok (.aload_n 0, 1) := by decide +kernel
theorem dX9_cell_1 : decode cX9_cell 1 = .ok (.getfield 28, 3) := by decide +kernel
theorem dX9_cell_4 : decode cX9_cell 4 = .ok (.iload_n 1, 1) := by decide +kernel
theorem dX9_cell_5 : decode cX9_cell 5 = .ok (.iload_n 2, 1) := by decide +kernel
theorem dX9_cell_6 : decode cX9_cell 6 = .ok (.invokevirtual 154, 3) := by decide +kernel
theorem dX9_cell_9 : decode cX9_cell 9 = .ok (.istore 4, 2) := by decide +kernel
theorem dX9_cell_11 : decode cX9_cell 11 = .ok (.aload_n 0, 1) := by decide +kernel
theorem dX9_cell_12 : decode cX9_cell 12 = .ok (.getfield 28, 3) := by decide +kernel
theorem dX9_cell_15 : decode cX9_cell 15 = .ok (.iload 4, 2) := by decide +kernel
theorem dX9_cell_17 : decode cX9_cell 17 = .ok (.invokevirtual 158, 3) := by decide +kernel
theorem dX9_cell_20 : decode cX9_cell 20 = .ok (.ifCond .ne 6, 3) := by decide +kernel
theorem dX9_cell_23 : decode cX9_cell 23 = .ok (.ldc 162, 2) := by decide +kernel
theorem dX9_cell_25 : decode cX9_cell 25 = .ok (.ireturn, 1) := by decide +kernel
theorem dX9_cell_26 : decode cX9_cell 26 = .ok (.iload_n 3, 1) := by decide +kernel
theorem dX9_cell_27 : decode cX9_cell 27 = .ok (.tableswitch 87 0 4 #[33, 44, 55, 66, 77], 33) := by decide +kernel
theorem dX9_cell_60 : decode cX9_cell 60 = .ok (.aload_n 0, 1) := by decide +kernel
theorem dX9_cell_61 : decode cX9_cell 61 = .ok (.getfield 37, 3) := by decide +kernel
theorem dX9_cell_64 : decode cX9_cell 64 = .ok (.getfield 163, 3) := by decide +kernel
theorem dX9_cell_67 : decode cX9_cell 67 = .ok (.iload 4, 2) := by decide +kernel
theorem dX9_cell_69 : decode cX9_cell 69 = .ok (.iaload, 1) := by decide +kernel
theorem dX9_cell_70 : decode cX9_cell 70 = .ok (.ireturn, 1) := by decide +kernel
theorem dX9_cell_71 : decode cX9_cell 71 = .ok (.aload_n 0, 1) := by decide +kernel
theorem dX9_cell_72 : decode cX9_cell 72 = .ok (.getfield 37, 3) := by decide +kernel
theorem dX9_cell_75 : decode cX9_cell 75 = .ok (.getfield 167, 3) := by decide +kernel
theorem dX9_cell_78 : decode cX9_cell 78 = .ok (.iload 4, 2) := by decide +kernel
theorem dX9_cell_80 : decode cX9_cell 80 = .ok (.iaload, 1) := by decide +kernel
theorem dX9_cell_81 : decode cX9_cell 81 = .ok (.ireturn, 1) := by decide +kernel
theorem dX9_cell_82 : decode cX9_cell 82 = .ok (.aload_n 0, 1) := by decide +kernel
theorem dX9_cell_83 : decode cX9_cell 83 = .ok (.getfield 28, 3) := by decide +kernel
theorem dX9_cell_86 : decode cX9_cell 86 = .ok (.getfield 170, 3) := by decide +kernel
theorem dX9_cell_89 : decode cX9_cell 89 = .ok (.iload 4, 2) := by decide +kernel
theorem dX9_cell_91 : decode cX9_cell 91 = .ok (.iaload, 1) := by decide +kernel
theorem dX9_cell_92 : decode cX9_cell 92 = .ok (.ireturn, 1) := by decide +kernel
theorem dX9_cell_93 : decode cX9_cell 93 = .ok (.aload_n 0, 1) := by decide +kernel
theorem dX9_cell_94 : decode cX9_cell 94 = .ok (.getfield 28, 3) := by decide +kernel
theorem dX9_cell_97 : decode cX9_cell 97 = .ok (.getfield 173, 3) := by decide +kernel
theorem dX9_cell_100 : decode cX9_cell 100 = .ok (.iload 4, 2) := by decide +kernel
theorem dX9_cell_102 : decode cX9_cell 102 = .ok (.iaload, 1) := by decide +kernel
theorem dX9_cell_103 : decode cX9_cell 103 = .ok (.ireturn, 1) := by decide +kernel
theorem dX9_cell_104 : decode cX9_cell 104 = .ok (.aload_n 0, 1) := by decide +kernel
theorem dX9_cell_105 : decode cX9_cell 105 = .ok (.getfield 37, 3) := by decide +kernel
theorem dX9_cell_108 : decode cX9_cell 108 = .ok (.iload 4, 2) := by decide +kernel
theorem dX9_cell_110 : decode cX9_cell 110 = .ok (.invokevirtual 176, 3) := by decide +kernel
theorem dX9_cell_113 : decode cX9_cell 113 = .ok (.ireturn, 1) := by decide +kernel
theorem dX9_cell_114 : decode cX9_cell 114 = .ok (.ldc 83, 2) := by decide +kernel
theorem dX9_cell_116 : decode cX9_cell 116 = .ok (.ireturn, 1) := by decide +kernel
theorem dX9_tithes_0 : decode cX9_tithes 0 = .ok (.aload_n 0, 1) := by decide +kernel
theorem dX9_tithes_1 : decode cX9_tithes 1 = .ok (.getfield 28, 3) := by decide +kernel
theorem dX9_tithes_4 : decode cX9_tithes 4 = .ok (.iload_n 2, 1) := by decide +kernel
theorem dX9_tithes_5 : decode cX9_tithes 5 = .ok (.iload_n 3, 1) := by decide +kernel
theorem dX9_tithes_6 : decode cX9_tithes 6 = .ok (.invokevirtual 154, 3) := by decide +kernel
theorem dX9_tithes_9 : decode cX9_tithes 9 = .ok (.istore 4, 2) := by decide +kernel
theorem dX9_tithes_11 : decode cX9_tithes 11 = .ok (.iload_n 1, 1) := by decide +kernel
theorem dX9_tithes_12 : decode cX9_tithes 12 = .ok (.invokestatic 179, 3) := by decide +kernel
theorem dX9_tithes_15 : decode cX9_tithes 15 = .ok (.ifCond .eq 15, 3) := by decide +kernel
theorem dX9_tithes_18 : decode cX9_tithes 18 = .ok (.aload_n 0, 1) := by decide +kernel
theorem dX9_tithes_19 : decode cX9_tithes 19 = .ok (.getfield 28, 3) := by decide +kernel
theorem dX9_tithes_22 : decode cX9_tithes 22 = .ok (.iload 4, 2) := by decide +kernel
theorem dX9_tithes_24 : decode cX9_tithes 24 = .ok (.invokevirtual 158, 3) := by decide +kernel
theorem dX9_tithes_27 : decode cX9_tithes 27 = .ok (.ifCond .ne 6, 3) := by decide +kernel
theorem dX9_tithes_30 : decode cX9_tithes 30 = .ok (.ldc 162, 2) := by decide +kernel
theorem dX9_tithes_32 : decode cX9_tithes 32 = .ok (.ireturn, 1) := by decide +kernel
theorem dX9_tithes_33 : decode cX9_tithes 33 = .ok (.aload_n 0, 1) := by decide +kernel
theorem dX9_tithes_34 : decode cX9_tithes 34 = .ok (.getfield 28, 3) := by decide +kernel
theorem dX9_tithes_37 : decode cX9_tithes 37 = .ok (.iload_n 1, 1) := by decide +kernel
theorem dX9_tithes_38 : decode cX9_tithes 38 = .ok (.iload 4, 2) := by decide +kernel
theorem dX9_tithes_40 : decode cX9_tithes 40 = .ok (.aload_n 0, 1) := by decide +kernel
theorem dX9_tithes_41 : decode cX9_tithes 41 = .ok (.getfield 37, 3) := by decide +kernel
theorem dX9_tithes_44 : decode cX9_tithes 44 = .ok (.getfield 126, 3) := by decide +kernel
theorem dX9_tithes_47 : decode cX9_tithes 47 = .ok (.invokevirtual 182, 3) := by decide +kernel
theorem dX9_tithes_50 : decode cX9_tithes 50 = .ok (.ireturn, 1) := by decide +kernel
theorem dX9_day_0 : decode cX9_day 0 = .ok (.iload_n 1, 1) := by decide +kernel
theorem dX9_day_1 : decode cX9_day 1 = .ok (.iconst 1, 1) := by decide +kernel
theorem dX9_day_2 : decode cX9_day 2 = .ok (.if_icmp .lt 9, 3) := by decide +kernel
theorem dX9_day_5 : decode cX9_day 5 = .ok (.iload_n 1, 1) := by decide +kernel
theorem dX9_day_6 : decode cX9_day 6 = .ok (.bipush 99, 2) := by decide +kernel
theorem dX9_day_8 : decode cX9_day 8 = .ok (.if_icmp .le 6, 3) := by decide +kernel
theorem dX9_day_11 : decode cX9_day 11 = .ok (.ldc 83, 2) := by decide +kernel
theorem dX9_day_13 : decode cX9_day 13 = .ok (.ireturn, 1) := by decide +kernel
theorem dX9_day_14 : decode cX9_day 14 = .ok (.aload_n 0, 1) := by decide +kernel
theorem dX9_day_15 : decode cX9_day 15 = .ok (.getfield 28, 3) := by decide +kernel
theorem dX9_day_18 : decode cX9_day 18 = .ok (.getfield 186, 3) := by decide +kernel
theorem dX9_day_21 : decode cX9_day 21 = .ok (.ifCond .ne 6, 3) := by decide +kernel
theorem dX9_day_24 : decode cX9_day 24 = .ok (.ldc 189, 2) := by decide +kernel
theorem dX9_day_26 : decode cX9_day 26 = .ok (.ireturn, 1) := by decide +kernel
theorem dX9_day_27 : decode cX9_day 27 = .ok (.iconst 0, 1) := by decide +kernel
theorem dX9_day_28 : decode cX9_day 28 = .ok (.istore_n 2, 1) := by decide +kernel
theorem dX9_day_29 : decode cX9_day 29 = .ok (.iload_n 2, 1) := by decide +kernel
theorem dX9_day_30 : decode cX9_day 30 = .ok (.iload_n 1, 1) := by decide +kernel
theorem dX9_day_31 : decode cX9_day 31 = .ok (.if_icmp .ge 16, 3) := by decide +kernel
theorem dX9_day_34 : decode cX9_day 34 = .ok (.aload_n 0, 1) := by decide +kernel
theorem dX9_day_35 : decode cX9_day 35 = .ok (.getfield 37, 3) := by decide +kernel
theorem dX9_day_38 : decode cX9_day 38 = .ok (.invokevirtual 190, 3) := by decide +kernel
theorem dX9_day_41 : decode cX9_day 41 = .ok (.iinc 2 1, 3) := by decide +kernel
theorem dX9_day_44 : decode cX9_day 44 = .ok (.goto (-15), 3) := by decide +kernel
theorem dX9_day_47 : decode cX9_day 47 = .ok (.aload_n 0, 1) := by decide +kernel
theorem dX9_day_48 : decode cX9_day 48 = .ok (.getfield 28, 3) := by decide +kernel
theorem dX9_day_51 : decode cX9_day 51 = .ok (.aload_n 0, 1) := by decide +kernel
theorem dX9_day_52 : decode cX9_day 52 = .ok (.getfield 37, 3) := by decide +kernel
theorem dX9_day_55 : decode cX9_day 55 = .ok (.getfield 139, 3) := by decide +kernel
theorem dX9_day_58 : decode cX9_day 58 = .ok (.invokevirtual 135, 3) := by decide +kernel
theorem dX9_day_61 : decode cX9_day 61 = .ok (.ireturn, 1) := by decide +kernel
theorem dX9_law_0 : decode cX9_law 0 = .ok (.iload_n 1, 1) := by decide +kernel
theorem dX9_law_1 : decode cX9_law 1 = .ok (.ifCond .lt 8, 3) := by decide +kernel
theorem dX9_law_4 : decode cX9_law 4 = .ok (.iload_n 1, 1) := by decide +kernel
theorem dX9_law_5 : decode cX9_law 5 = .ok (.iconst 2, 1) := by decide +kernel
theorem dX9_law_6 : decode cX9_law 6 = .ok (.if_icmp .le 6, 3) := by decide +kernel
theorem dX9_law_9 : decode cX9_law 9 = .ok (.ldc 83, 2) := by decide +kernel
theorem dX9_law_11 : decode cX9_law 11 = .ok (.ireturn, 1) := by decide +kernel
theorem dX9_law_12 : decode cX9_law 12 = .ok (.aload_n 0, 1) := by decide +kernel
theorem dX9_law_13 : decode cX9_law 13 = .ok (.getfield 37, 3) := by decide +kernel
theorem dX9_law_16 : decode cX9_law 16 = .ok (.getfield 126, 3) := by decide +kernel
theorem dX9_law_19 : decode cX9_law 19 = .ok (.istore_n 2, 1) := by decide +kernel
theorem dX9_law_20 : decode cX9_law 20 = .ok (.aload_n 0, 1) := by decide +kernel
theorem dX9_law_21 : decode cX9_law 21 = .ok (.getfield 37, 3) := by decide +kernel
theorem dX9_law_24 : decode cX9_law 24 = .ok (.iload_n 1, 1) := by decide +kernel
theorem dX9_law_25 : decode cX9_law 25 = .ok (.putfield 126, 3) := by decide +kernel
theorem dX9_law_28 : decode cX9_law 28 = .ok (.iload_n 2, 1) := by decide +kernel
theorem dX9_law_29 : decode cX9_law 29 = .ok (.ireturn, 1) := by decide +kernel
theorem dX9_sow_0 : decode cX9_sow 0 = .ok (.aload_n 0, 1) := by decide +kernel
theorem dX9_sow_1 : decode cX9_sow 1 = .ok (.getfield 28, 3) := by decide +kernel
theorem dX9_sow_4 : decode cX9_sow 4 = .ok (.iload_n 1, 1) := by decide +kernel
theorem dX9_sow_5 : decode cX9_sow 5 = .ok (.iload_n 2, 1) := by decide +kernel
theorem dX9_sow_6 : decode cX9_sow 6 = .ok (.invokevirtual 154, 3) := by decide +kernel
theorem dX9_sow_9 : decode cX9_sow 9 = .ok (.istore 4, 2) := by decide +kernel
theorem dX9_sow_11 : decode cX9_sow 11 = .ok (.aload_n 0, 1) := by decide +kernel
theorem dX9_sow_12 : decode cX9_sow 12 = .ok (.getfield 28, 3) := by decide +kernel
theorem dX9_sow_15 : decode cX9_sow 15 = .ok (.iload 4, 2) := by decide +kernel
theorem dX9_sow_17 : decode cX9_sow 17 = .ok (.invokevirtual 158, 3) := by decide +kernel
theorem dX9_sow_20 : decode cX9_sow 20 = .ok (.ifCond .ne 6, 3) := by decide +kernel
theorem dX9_sow_23 : decode cX9_sow 23 = .ok (.ldc 162, 2) := by decide +kernel
theorem dX9_sow_25 : decode cX9_sow 25 = .ok (.ireturn, 1) := by decide +kernel
theorem dX9_sow_26 : decode cX9_sow 26 = .ok (.iload_n 3, 1) := by decide +kernel
theorem dX9_sow_27 : decode cX9_sow 27 = .ok (.invokestatic 193, 3) := by decide +kernel
theorem dX9_sow_30 : decode cX9_sow 30 = .ok (.ifCond .ne 6, 3) := by decide +kernel
theorem dX9_sow_33 : decode cX9_sow 33 = .ok (.ldc 83, 2) := by decide +kernel
theorem dX9_sow_35 : decode cX9_sow 35 = .ok (.ireturn, 1) := by decide +kernel
theorem dX9_sow_36 : decode cX9_sow 36 = .ok (.aload_n 0, 1) := by decide +kernel
theorem dX9_sow_37 : decode cX9_sow 37 = .ok (.getfield 37, 3) := by decide +kernel
theorem dX9_sow_40 : decode cX9_sow 40 = .ok (.getfield 163, 3) := by decide +kernel
theorem dX9_sow_43 : decode cX9_sow 43 = .ok (.iload 4, 2) := by decide +kernel
theorem dX9_sow_45 : decode cX9_sow 45 = .ok (.aload_n 0, 1) := by decide +kernel
theorem dX9_sow_46 : decode cX9_sow 46 = .ok (.getfield 37, 3) := by decide +kernel
theorem dX9_sow_49 : decode cX9_sow 49 = .ok (.getfield 163, 3) := by decide +kernel
theorem dX9_sow_52 : decode cX9_sow 52 = .ok (.iload 4, 2) := by decide +kernel
theorem dX9_sow_54 : decode cX9_sow 54 = .ok (.iaload, 1) := by decide +kernel
theorem dX9_sow_55 : decode cX9_sow 55 = .ok (.iload_n 3, 1) := by decide +kernel
theorem dX9_sow_56 : decode cX9_sow 56 = .ok (.invokestatic 196, 3) := by decide +kernel
theorem dX9_sow_59 : decode cX9_sow 59 = .ok (.iastore, 1) := by decide +kernel
theorem dX9_sow_60 : decode cX9_sow 60 = .ok (.aload_n 0, 1) := by decide +kernel
theorem dX9_sow_61 : decode cX9_sow 61 = .ok (.getfield 37, 3) := by decide +kernel
theorem dX9_sow_64 : decode cX9_sow 64 = .ok (.getfield 167, 3) := by decide +kernel
theorem dX9_sow_67 : decode cX9_sow 67 = .ok (.iload 4, 2) := by decide +kernel
theorem dX9_sow_69 : decode cX9_sow 69 = .ok (.aload_n 0, 1) := by decide +kernel
theorem dX9_sow_70 : decode cX9_sow 70 = .ok (.getfield 37, 3) := by decide +kernel
theorem dX9_sow_73 : decode cX9_sow 73 = .ok (.getfield 167, 3) := by decide +kernel
theorem dX9_sow_76 : decode cX9_sow 76 = .ok (.iload 4, 2) := by decide +kernel
theorem dX9_sow_78 : decode cX9_sow 78 = .ok (.iaload, 1) := by decide +kernel
theorem dX9_sow_79 : decode cX9_sow 79 = .ok (.iload_n 3, 1) := by decide +kernel
theorem dX9_sow_80 : decode cX9_sow 80 = .ok (.invokestatic 196, 3) := by decide +kernel
theorem dX9_sow_83 : decode cX9_sow 83 = .ok (.iastore, 1) := by decide +kernel
theorem dX9_sow_84 : decode cX9_sow 84 = .ok (.aload_n 0, 1) := by decide +kernel
theorem dX9_sow_85 : decode cX9_sow 85 = .ok (.getfield 37, 3) := by decide +kernel
theorem dX9_sow_88 : decode cX9_sow 88 = .ok (.getfield 163, 3) := by decide +kernel
theorem dX9_sow_91 : decode cX9_sow 91 = .ok (.iload 4, 2) := by decide +kernel
theorem dX9_sow_93 : decode cX9_sow 93 = .ok (.iaload, 1) := by decide +kernel
theorem dX9_sow_94 : decode cX9_sow 94 = .ok (.ireturn, 1) := by decide +kernel
theorem dX9_lead_0 : decode cX9_lead 0 = .ok (.aload_n 0, 1) := by decide +kernel
theorem dX9_lead_1 : decode cX9_lead 1 = .ok (.getfield 28, 3) := by decide +kernel
theorem dX9_lead_4 : decode cX9_lead 4 = .ok (.iload_n 1, 1) := by decide +kernel
theorem dX9_lead_5 : decode cX9_lead 5 = .ok (.iload_n 2, 1) := by decide +kernel
theorem dX9_lead_6 : decode cX9_lead 6 = .ok (.invokevirtual 154, 3) := by decide +kernel
theorem dX9_lead_9 : decode cX9_lead 9 = .ok (.istore_n 3, 1) := by decide +kernel
theorem dX9_lead_10 : decode cX9_lead 10 = .ok (.aload_n 0, 1) := by decide +kernel
theorem dX9_lead_11 : decode cX9_lead 11 = .ok (.getfield 28, 3) := by decide +kernel
theorem dX9_lead_14 : decode cX9_lead 14 = .ok (.iload_n 3, 1) := by decide +kernel
theorem dX9_lead_15 : decode cX9_lead 15 = .ok (.invokevirtual 158, 3) := by decide +kernel
theorem dX9_lead_18 : decode cX9_lead 18 = .ok (.ifCond .ne 6, 3) := by decide +kernel
theorem dX9_lead_21 : decode cX9_lead 21 = .ok (.ldc 162, 2) := by decide +kernel
theorem dX9_lead_23 : decode cX9_lead 23 = .ok (.ireturn, 1) := by decide +kernel
theorem dX9_lead_24 : decode cX9_lead 24 = .ok (.aload_n 0, 1) := by decide +kernel
theorem dX9_lead_25 : decode cX9_lead 25 = .ok (.getfield 28, 3) := by decide +kernel
theorem dX9_lead_28 : decode cX9_lead 28 = .ok (.aload_n 0, 1) := by decide +kernel
theorem dX9_lead_29 : decode cX9_lead 29 = .ok (.getfield 37, 3) := by decide +kernel
theorem dX9_lead_32 : decode cX9_lead 32 = .ok (.getfield 132, 3) := by decide +kernel
theorem dX9_lead_35 : decode cX9_lead 35 = .ok (.invokevirtual 135, 3) := by decide +kernel
theorem dX9_lead_38 : decode cX9_lead 38 = .ok (.istore 4, 2) := by decide +kernel
theorem dX9_lead_40 : decode cX9_lead 40 = .ok (.aload_n 0, 1) := by decide +kernel
theorem dX9_lead_41 : decode cX9_lead 41 = .ok (.getfield 37, 3) := by decide +kernel
theorem dX9_lead_44 : decode cX9_lead 44 = .ok (.iload_n 3, 1) := by decide +kernel
theorem dX9_lead_45 : decode cX9_lead 45 = .ok (.putfield 132, 3) := by decide +kernel
theorem dX9_lead_48 : decode cX9_lead 48 = .ok (.iload 4, 2) := by decide +kernel
theorem dX9_lead_50 : decode cX9_lead 50 = .ok (.ireturn, 1) := by decide +kernel
theorem dX9_lick_0 : decode cX9_lick 0 = .ok (.aload_n 0, 1) := by decide +kernel
theorem dX9_lick_1 : decode cX9_lick 1 = .ok (.getfield 28, 3) := by decide +kernel
theorem dX9_lick_4 : decode cX9_lick 4 = .ok (.iload_n 1, 1) := by decide +kernel
theorem dX9_lick_5 : decode cX9_lick 5 = .ok (.iload_n 2, 1) := by decide +kernel
theorem dX9_lick_6 : decode cX9_lick 6 = .ok (.invokevirtual 154, 3) := by decide +kernel
theorem dX9_lick_9 : decode cX9_lick 9 = .ok (.istore_n 3, 1) := by decide +kernel
theorem dX9_lick_10 : decode cX9_lick 10 = .ok (.aload_n 0, 1) := by decide +kernel
theorem dX9_lick_11 : decode cX9_lick 11 = .ok (.getfield 28, 3) := by decide +kernel
theorem dX9_lick_14 : decode cX9_lick 14 = .ok (.iload_n 3, 1) := by decide +kernel
theorem dX9_lick_15 : decode cX9_lick 15 = .ok (.invokevirtual 158, 3) := by decide +kernel
theorem dX9_lick_18 : decode cX9_lick 18 = .ok (.ifCond .ne 6, 3) := by decide +kernel
theorem dX9_lick_21 : decode cX9_lick 21 = .ok (.ldc 162, 2) := by decide +kernel
theorem dX9_lick_23 : decode cX9_lick 23 = .ok (.ireturn, 1) := by decide +kernel
theorem dX9_lick_24 : decode cX9_lick 24 = .ok (.aload_n 0, 1) := by decide +kernel
theorem dX9_lick_25 : decode cX9_lick 25 = .ok (.getfield 28, 3) := by decide +kernel
theorem dX9_lick_28 : decode cX9_lick 28 = .ok (.aload_n 0, 1) := by decide +kernel
theorem dX9_lick_29 : decode cX9_lick 29 = .ok (.getfield 37, 3) := by decide +kernel
theorem dX9_lick_32 : decode cX9_lick 32 = .ok (.getfield 142, 3) := by decide +kernel
theorem dX9_lick_35 : decode cX9_lick 35 = .ok (.invokevirtual 135, 3) := by decide +kernel
theorem dX9_lick_38 : decode cX9_lick 38 = .ok (.istore 4, 2) := by decide +kernel
theorem dX9_lick_40 : decode cX9_lick 40 = .ok (.aload_n 0, 1) := by decide +kernel
theorem dX9_lick_41 : decode cX9_lick 41 = .ok (.getfield 37, 3) := by decide +kernel
theorem dX9_lick_44 : decode cX9_lick 44 = .ok (.iload_n 3, 1) := by decide +kernel
theorem dX9_lick_45 : decode cX9_lick 45 = .ok (.putfield 142, 3) := by decide +kernel
theorem dX9_lick_48 : decode cX9_lick 48 = .ok (.iload 4, 2) := by decide +kernel
theorem dX9_lick_50 : decode cX9_lick 50 = .ok (.ireturn, 1) := by decide +kernel
theorem dX9_odds_0 : decode cX9_odds 0 = .ok (.aload_n 0, 1) := by decide +kernel
theorem dX9_odds_1 : decode cX9_odds 1 = .ok (.getfield 28, 3) := by decide +kernel
theorem dX9_odds_4 : decode cX9_odds 4 = .ok (.iload_n 1, 1) := by decide +kernel
theorem dX9_odds_5 : decode cX9_odds 5 = .ok (.iload_n 2, 1) := by decide +kernel
theorem dX9_odds_6 : decode cX9_odds 6 = .ok (.invokevirtual 154, 3) := by decide +kernel
theorem dX9_odds_9 : decode cX9_odds 9 = .ok (.istore 4, 2) := by decide +kernel
theorem dX9_odds_11 : decode cX9_odds 11 = .ok (.aload_n 0, 1) := by decide +kernel
theorem dX9_odds_12 : decode cX9_odds 12 = .ok (.getfield 28, 3) := by decide +kernel
theorem dX9_odds_15 : decode cX9_odds 15 = .ok (.iload 4, 2) := by decide +kernel
theorem dX9_odds_17 : decode cX9_odds 17 = .ok (.invokevirtual 158, 3) := by decide +kernel
theorem dX9_odds_20 : decode cX9_odds 20 = .ok (.ifCond .ne 6, 3) := by decide +kernel
theorem dX9_odds_23 : decode cX9_odds 23 = .ok (.ldc 162, 2) := by decide +kernel
theorem dX9_odds_25 : decode cX9_odds 25 = .ok (.ireturn, 1) := by decide +kernel
theorem dX9_odds_26 : decode cX9_odds 26 = .ok (.iload_n 3, 1) := by decide +kernel
theorem dX9_odds_27 : decode cX9_odds 27 = .ok (.invokestatic 199, 3) := by decide +kernel
theorem dX9_odds_30 : decode cX9_odds 30 = .ok (.ifCond .ne 6, 3) := by decide +kernel
theorem dX9_odds_33 : decode cX9_odds 33 = .ok (.ldc 83, 2) := by decide +kernel
theorem dX9_odds_35 : decode cX9_odds 35 = .ok (.ireturn, 1) := by decide +kernel
theorem dX9_odds_36 : decode cX9_odds 36 = .ok (.aload_n 0, 1) := by decide +kernel
theorem dX9_odds_37 : decode cX9_odds 37 = .ok (.getfield 56, 3) := by decide +kernel
theorem dX9_odds_40 : decode cX9_odds 40 = .ok (.aload_n 0, 1) := by decide +kernel
theorem dX9_odds_41 : decode cX9_odds 41 = .ok (.getfield 37, 3) := by decide +kernel
theorem dX9_odds_44 : decode cX9_odds 44 = .ok (.getfield 142, 3) := by decide +kernel
theorem dX9_odds_47 : decode cX9_odds 47 = .ok (.invokevirtual 202, 3) := by decide +kernel
theorem dX9_odds_50 : decode cX9_odds 50 = .ok (.aload_n 0, 1) := by decide +kernel
theorem dX9_odds_51 : decode cX9_odds 51 = .ok (.getfield 56, 3) := by decide +kernel
theorem dX9_odds_54 : decode cX9_odds 54 = .ok (.iload_n 3, 1) := by decide +kernel
theorem dX9_odds_55 : decode cX9_odds 55 = .ok (.invokevirtual 205, 3) := by decide +kernel
theorem dX9_odds_58 : decode cX9_odds 58 = .ok (.aload_n 0, 1) := by decide +kernel
theorem dX9_odds_59 : decode cX9_odds 59 = .ok (.getfield 56, 3) := by decide +kernel
theorem dX9_odds_62 : decode cX9_odds 62 = .ok (.getfield 208, 3) := by decide +kernel
theorem dX9_odds_65 : decode cX9_odds 65 = .ok (.iload 4, 2) := by decide +kernel
theorem dX9_odds_67 : decode cX9_odds 67 = .ok (.laload, 1) := by decide +kernel
theorem dX9_odds_68 : decode cX9_odds 68 = .ok (.l2i, 1) := by decide +kernel
theorem dX9_odds_69 : decode cX9_odds 69 = .ok (.ireturn, 1) := by decide +kernel
theorem dX9_mean_0 : decode cX9_mean 0 = .ok (.iload_n 1, 1) := by decide +kernel
theorem dX9_mean_1 : decode cX9_mean 1 = .ok (.invokestatic 179, 3) := by decide +kernel
theorem dX9_mean_4 : decode cX9_mean 4 = .ok (.ifCond .ne 6, 3) := by decide +kernel
theorem dX9_mean_7 : decode cX9_mean 7 = .ok (.ldc 162, 2) := by decide +kernel
theorem dX9_mean_9 : decode cX9_mean 9 = .ok (.ireturn, 1) := by decide +kernel
theorem dX9_mean_10 : decode cX9_mean 10 = .ok (.aload_n 0, 1) := by decide +kernel
theorem dX9_mean_11 : decode cX9_mean 11 = .ok (.getfield 28, 3) := by decide +kernel
theorem dX9_mean_14 : decode cX9_mean 14 = .ok (.getfield 186, 3) := by decide +kernel
theorem dX9_mean_17 : decode cX9_mean 17 = .ok (.ifCond .ne 6, 3) := by decide +kernel
theorem dX9_mean_20 : decode cX9_mean 20 = .ok (.ldc 189, 2) := by decide +kernel
theorem dX9_mean_22 : decode cX9_mean 22 = .ok (.ireturn, 1) := by decide +kernel
theorem dX9_mean_23 : decode cX9_mean 23 = .ok (.aload_n 0, 1) := by decide +kernel
theorem dX9_mean_24 : decode cX9_mean 24 = .ok (.getfield 65, 3) := by decide +kernel
theorem dX9_mean_27 : decode cX9_mean 27 = .ok (.invokevirtual 212, 3) := by decide +kernel
theorem dX9_mean_30 : decode cX9_mean 30 = .ok (.aload_n 0, 1) := by decide +kernel
theorem dX9_mean_31 : decode cX9_mean 31 = .ok (.getfield 65, 3) := by decide +kernel
theorem dX9_mean_34 : decode cX9_mean 34 = .ok (.iload_n 1, 1) := by decide +kernel
theorem dX9_mean_35 : decode cX9_mean 35 = .ok (.aload_n 0, 1) := by decide +kernel
theorem dX9_mean_36 : decode cX9_mean 36 = .ok (.getfield 37, 3) := by decide +kernel
theorem dX9_mean_39 : decode cX9_mean 39 = .ok (.getfield 142, 3) := by decide +kernel
theorem dX9_mean_42 : decode cX9_mean 42 = .ok (.invokevirtual 215, 3) := by decide +kernel
theorem dX9_mean_45 : decode cX9_mean 45 = .ok (.ireturn, 1) := by decide +kernel
theorem dX9_clover_0 : decode cX9_clover 0 = .ok (.iload_n 1, 1) := by decide +kernel
theorem dX9_clover_1 : decode cX9_clover 1 = .ok (.invokestatic 179, 3) := by decide +kernel
theorem dX9_clover_4 : decode cX9_clover 4 = .ok (.ifCond .ne 6, 3) := by decide +kernel
theorem dX9_clover_7 : decode cX9_clover 7 = .ok (.ldc 162, 2) := by decide +kernel
theorem dX9_clover_9 : decode cX9_clover 9 = .ok (.ireturn, 1) := by decide +kernel
theorem dX9_clover_10 : decode cX9_clover 10 = .ok (.iload_n 2, 1) := by decide +kernel
theorem dX9_clover_11 : decode cX9_clover 11 = .ok (.invokestatic 193, 3) := by decide +kernel
theorem dX9_clover_14 : decode cX9_clover 14 = .ok (.ifCond .eq 12, 3) := by decide +kernel
theorem dX9_clover_17 : decode cX9_clover 17 = .ok (.iload_n 3, 1) := by decide +kernel
theorem dX9_clover_18 : decode cX9_clover 18 = .ok (.ifCond .lt 8, 3) := by decide +kernel
theorem dX9_clover_21 : decode cX9_clover 21 = .ok (.iload_n 3, 1) := by decide +kernel
theorem dX9_clover_22 : decode cX9_clover 22 = .ok (.iconst 1, 1) := by decide +kernel
theorem dX9_clover_23 : decode cX9_clover 23 = .ok (.if_icmp .le 6, 3) := by decide +kernel
theorem dX9_clover_26 : decode cX9_clover 26 = .ok (.ldc 83, 2) := by decide +kernel
theorem dX9_clover_28 : decode cX9_clover 28 = .ok (.ireturn, 1) := by decide +kernel
theorem dX9_clover_29 : decode cX9_clover 29 = .ok (.aload_n 0, 1) := by decide +kernel
theorem dX9_clover_30 : decode cX9_clover 30 = .ok (.getfield 28, 3) := by decide +kernel
theorem dX9_clover_33 : decode cX9_clover 33 = .ok (.getfield 186, 3) := by decide +kernel
theorem dX9_clover_36 : decode cX9_clover 36 = .ok (.ifCond .ne 6, 3) := by decide +kernel
theorem dX9_clover_39 : decode cX9_clover 39 = .ok (.ldc 189, 2) := by decide +kernel
theorem dX9_clover_41 : decode cX9_clover 41 = .ok (.ireturn, 1) := by decide +kernel
theorem dX9_clover_42 : decode cX9_clover 42 = .ok (.aload_n 0, 1) := by decide +kernel
theorem dX9_clover_43 : decode cX9_clover 43 = .ok (.getfield 65, 3) := by decide +kernel
theorem dX9_clover_46 : decode cX9_clover 46 = .ok (.invokevirtual 212, 3) := by decide +kernel
theorem dX9_clover_49 : decode cX9_clover 49 = .ok (.aload_n 0, 1) := by decide +kernel
theorem dX9_clover_50 : decode cX9_clover 50 = .ok (.getfield 65, 3) := by decide +kernel
theorem dX9_clover_53 : decode cX9_clover 53 = .ok (.iload_n 1, 1) := by decide +kernel
theorem dX9_clover_54 : decode cX9_clover 54 = .ok (.iload_n 2, 1) := by decide +kernel
theorem dX9_clover_55 : decode cX9_clover 55 = .ok (.iconst (-1), 1) := by decide +kernel
theorem dX9_clover_56 : decode cX9_clover 56 = .ok (.invokevirtual 218, 3) := by decide +kernel
theorem dX9_clover_59 : decode cX9_clover 59 = .ok (.istore 4, 2) := by decide +kernel
theorem dX9_clover_61 : decode cX9_clover 61 = .ok (.iload_n 3, 1) := by decide +kernel
theorem dX9_clover_62 : decode cX9_clover 62 = .ok (.ifCond .ne 13, 3) := by decide +kernel
theorem dX9_clover_65 : decode cX9_clover 65 = .ok (.aload_n 0, 1) := by decide +kernel
theorem dX9_clover_66 : decode cX9_clover 66 = .ok (.getfield 28, 3) := by decide +kernel
theorem dX9_clover_69 : decode cX9_clover 69 = .ok (.iload 4, 2) := by decide +kernel
theorem dX9_clover_71 : decode cX9_clover 71 = .ok (.invokevirtual 135, 3) := by decide +kernel
theorem dX9_clover_74 : decode cX9_clover 74 = .ok (.ireturn, 1) := by decide +kernel
theorem dX9_clover_75 : decode cX9_clover 75 = .ok (.aload_n 0, 1) := by decide +kernel
theorem dX9_clover_76 : decode cX9_clover 76 = .ok (.getfield 65, 3) := by decide +kernel
theorem dX9_clover_79 : decode cX9_clover 79 = .ok (.getfield 221, 3) := by decide +kernel
theorem dX9_clover_82 : decode cX9_clover 82 = .ok (.aload_n 0, 1) := by decide +kernel
theorem dX9_clover_83 : decode cX9_clover 83 = .ok (.getfield 65, 3) := by decide +kernel
theorem dX9_clover_86 : decode cX9_clover 86 = .ok (.iload_n 1, 1) := by decide +kernel
theorem dX9_clover_87 : decode cX9_clover 87 = .ok (.aload_n 0, 1) := by decide +kernel
theorem dX9_clover_88 : decode cX9_clover 88 = .ok (.getfield 37, 3) := by decide +kernel
theorem dX9_clover_91 : decode cX9_clover 91 = .ok (.getfield 142, 3) := by decide +kernel
theorem dX9_clover_94 : decode cX9_clover 94 = .ok (.invokevirtual 215, 3) := by decide +kernel
theorem dX9_clover_97 : decode cX9_clover 97 = .ok (.isub, 1) := by decide +kernel
theorem dX9_clover_98 : decode cX9_clover 98 = .ok (.ireturn, 1) := by decide +kernel
theorem dX9_rests_0 : decode cX9_rests 0 = .ok (.iload_n 1, 1) := by decide +kernel
theorem dX9_rests_1 : decode cX9_rests 1 = .ok (.iconst (-1), 1) := by decide +kernel
theorem dX9_rests_2 : decode cX9_rests 2 = .ok (.if_icmp .eq 13, 3) := by decide +kernel
theorem dX9_rests_5 : decode cX9_rests 5 = .ok (.iload_n 1, 1) := by decide +kernel
theorem dX9_rests_6 : decode cX9_rests 6 = .ok (.invokestatic 179, 3) := by decide +kernel
theorem dX9_rests_9 : decode cX9_rests 9 = .ok (.ifCond .ne 6, 3) := by decide +kernel
theorem dX9_rests_12 : decode cX9_rests 12 = .ok (.ldc 162, 2) := by decide +kernel
theorem dX9_rests_14 : decode cX9_rests 14 = .ok (.ireturn, 1) := by decide +kernel
theorem dX9_rests_15 : decode cX9_rests 15 = .ok (.iload_n 2, 1) := by decide +kernel
theorem dX9_rests_16 : decode cX9_rests 16 = .ok (.invokestatic 193, 3) := by decide +kernel
theorem dX9_rests_19 : decode cX9_rests 19 = .ok (.ifCond .ne 6, 3) := by decide +kernel
theorem dX9_rests_22 : decode cX9_rests 22 = .ok (.ldc 83, 2) := by decide +kernel
theorem dX9_rests_24 : decode cX9_rests 24 = .ok (.ireturn, 1) := by decide +kernel
theorem dX9_rests_25 : decode cX9_rests 25 = .ok (.aload_n 0, 1) := by decide +kernel
theorem dX9_rests_26 : decode cX9_rests 26 = .ok (.getfield 28, 3) := by decide +kernel
theorem dX9_rests_29 : decode cX9_rests 29 = .ok (.getfield 186, 3) := by decide +kernel
theorem dX9_rests_32 : decode cX9_rests 32 = .ok (.ifCond .ne 6, 3) := by decide +kernel
theorem dX9_rests_35 : decode cX9_rests 35 = .ok (.ldc 189, 2) := by decide +kernel
theorem dX9_rests_37 : decode cX9_rests 37 = .ok (.ireturn, 1) := by decide +kernel
theorem dX9_rests_38 : decode cX9_rests 38 = .ok (.aload_n 0, 1) := by decide +kernel
theorem dX9_rests_39 : decode cX9_rests 39 = .ok (.getfield 65, 3) := by decide +kernel
theorem dX9_rests_42 : decode cX9_rests 42 = .ok (.invokevirtual 212, 3) := by decide +kernel
theorem dX9_rests_45 : decode cX9_rests 45 = .ok (.aload_n 0, 1) := by decide +kernel
theorem dX9_rests_46 : decode cX9_rests 46 = .ok (.getfield 65, 3) := by decide +kernel
theorem dX9_rests_49 : decode cX9_rests 49 = .ok (.iload_n 2, 1) := by decide +kernel
theorem dX9_rests_50 : decode cX9_rests 50 = .ok (.invokevirtual 224, 3) := by decide +kernel
theorem dX9_rests_53 : decode cX9_rests 53 = .ok (.istore_n 3, 1) := by decide +kernel
theorem dX9_rests_54 : decode cX9_rests 54 = .ok (.iload_n 1, 1) := by decide +kernel
theorem dX9_rests_55 : decode cX9_rests 55 = .ok (.iconst (-1), 1) := by decide +kernel
theorem dX9_rests_56 : decode cX9_rests 56 = .ok (.if_icmp .eq 8, 3) := by decide +kernel
theorem dX9_rests_59 : decode cX9_rests 59 = .ok (.iload_n 3, 1) := by decide +kernel
theorem dX9_rests_60 : decode cX9_rests 60 = .ok (.iconst (-1), 1) := by decide +kernel
theorem dX9_rests_61 : decode cX9_rests 61 = .ok (.if_icmp .ne 5, 3) := by decide +kernel
theorem dX9_rests_64 : decode cX9_rests 64 = .ok (.iload_n 3, 1) := by decide +kernel
theorem dX9_rests_65 : decode cX9_rests 65 = .ok (.ireturn, 1) := by decide +kernel
theorem dX9_rests_66 : decode cX9_rests 66 = .ok (.aload_n 0, 1) := by decide +kernel
theorem dX9_rests_67 : decode cX9_rests 67 = .ok (.getfield 28, 3) := by decide +kernel
theorem dX9_rests_70 : decode cX9_rests 70 = .ok (.iload_n 1, 1) := by decide +kernel
theorem dX9_rests_71 : decode cX9_rests 71 = .ok (.ifCond .ne 13, 3) := by decide +kernel
theorem dX9_rests_74 : decode cX9_rests 74 = .ok (.aload_n 0, 1) := by decide +kernel
theorem dX9_rests_75 : decode cX9_rests 75 = .ok (.getfield 65, 3) := by decide +kernel
theorem dX9_rests_78 : decode cX9_rests 78 = .ok (.getfield 227, 3) := by decide +kernel
theorem dX9_rests_81 : decode cX9_rests 81 = .ok (.goto 10, 3) := by decide +kernel
theorem dX9_rests_84 : decode cX9_rests 84 = .ok (.aload_n 0, 1) := by decide +kernel
theorem dX9_rests_85 : decode cX9_rests 85 = .ok (.getfield 65, 3) := by decide +kernel
theorem dX9_rests_88 : decode cX9_rests 88 = .ok (.getfield 230, 3) := by decide +kernel
theorem dX9_rests_91 : decode cX9_rests 91 = .ok (.invokevirtual 135, 3) := by decide +kernel
theorem dX9_rests_94 : decode cX9_rests 94 = .ok (.ireturn, 1) := by decide +kernel
theorem dX9_worth_0 : decode cX9_worth 0 = .ok (.aload_n 0, 1) := by decide +kernel
theorem dX9_worth_1 : decode cX9_worth 1 = .ok (.getfield 28, 3) := by decide +kernel
theorem dX9_worth_4 : decode cX9_worth 4 = .ok (.iload_n 2, 1) := by decide +kernel
theorem dX9_worth_5 : decode cX9_worth 5 = .ok (.iload_n 3, 1) := by decide +kernel
theorem dX9_worth_6 : decode cX9_worth 6 = .ok (.invokevirtual 154, 3) := by decide +kernel
theorem dX9_worth_9 : decode cX9_worth 9 = .ok (.istore 4, 2) := by decide +kernel
theorem dX9_worth_11 : decode cX9_worth 11 = .ok (.iload_n 1, 1) := by decide +kernel
theorem dX9_worth_12 : decode cX9_worth 12 = .ok (.invokestatic 179, 3) := by decide +kernel
theorem dX9_worth_15 : decode cX9_worth 15 = .ok (.ifCond .eq 15, 3) := by decide +kernel
theorem dX9_worth_18 : decode cX9_worth 18 = .ok (.aload_n 0, 1) := by decide +kernel
theorem dX9_worth_19 : decode cX9_worth 19 = .ok (.getfield 28, 3) := by decide +kernel
theorem dX9_worth_22 : decode cX9_worth 22 = .ok (.iload 4, 2) := by decide +kernel
theorem dX9_worth_24 : decode cX9_worth 24 = .ok (.invokevirtual 158, 3) := by decide +kernel
theorem dX9_worth_27 : decode cX9_worth 27 = .ok (.ifCond .ne 6, 3) := by decide +kernel
theorem dX9_worth_30 : decode cX9_worth 30 = .ok (.ldc 162, 2) := by decide +kernel
theorem dX9_worth_32 : decode cX9_worth 32 = .ok (.ireturn, 1) := by decide +kernel
theorem dX9_worth_33 : decode cX9_worth 33 = .ok (.aload_n 0, 1) := by decide +kernel
theorem dX9_worth_34 : decode cX9_worth 34 = .ok (.getfield 65, 3) := by decide +kernel
theorem dX9_worth_37 : decode cX9_worth 37 = .ok (.invokevirtual 212, 3) := by decide +kernel
theorem dX9_worth_40 : decode cX9_worth 40 = .ok (.aload_n 0, 1) := by decide +kernel
theorem dX9_worth_41 : decode cX9_worth 41 = .ok (.getfield 65, 3) := by decide +kernel
theorem dX9_worth_44 : decode cX9_worth 44 = .ok (.iload_n 1, 1) := by decide +kernel
theorem dX9_worth_45 : decode cX9_worth 45 = .ok (.iload 4, 2) := by decide +kernel
theorem dX9_worth_47 : decode cX9_worth 47 = .ok (.invokevirtual 215, 3) := by decide +kernel
theorem dX9_worth_50 : decode cX9_worth 50 = .ok (.aload_n 0, 1) := by decide +kernel
theorem dX9_worth_51 : decode cX9_worth 51 = .ok (.getfield 65, 3) := by decide +kernel
theorem dX9_worth_54 : decode cX9_worth 54 = .ok (.iload_n 1, 1) := by decide +kernel
theorem dX9_worth_55 : decode cX9_worth 55 = .ok (.aload_n 0, 1) := by decide +kernel
theorem dX9_worth_56 : decode cX9_worth 56 = .ok (.getfield 37, 3) := by decide +kernel
theorem dX9_worth_59 : decode cX9_worth 59 = .ok (.getfield 142, 3) := by decide +kernel
theorem dX9_worth_62 : decode cX9_worth 62 = .ok (.invokevirtual 215, 3) := by decide +kernel
theorem dX9_worth_65 : decode cX9_worth 65 = .ok (.isub, 1) := by decide +kernel
theorem dX9_worth_66 : decode cX9_worth 66 = .ok (.ireturn, 1) := by decide +kernel
theorem dX9_fairest_0 : decode cX9_fairest 0 = .ok (.iload_n 1, 1) := by decide +kernel
theorem dX9_fairest_1 : decode cX9_fairest 1 = .ok (.ifCond .lt 8, 3) := by decide +kernel
theorem dX9_fairest_4 : decode cX9_fairest 4 = .ok (.iload_n 1, 1) := by decide +kernel
theorem dX9_fairest_5 : decode cX9_fairest 5 = .ok (.iconst 1, 1) := by decide +kernel
theorem dX9_fairest_6 : decode cX9_fairest 6 = .ok (.if_icmp .le 6, 3) := by decide +kernel
theorem dX9_fairest_9 : decode cX9_fairest 9 = .ok (.ldc 83, 2) := by decide +kernel
theorem dX9_fairest_11 : decode cX9_fairest 11 = .ok (.ireturn, 1) := by decide +kernel
theorem dX9_fairest_12 : decode cX9_fairest 12 = .ok (.aload_n 0, 1) := by decide +kernel
theorem dX9_fairest_13 : decode cX9_fairest 13 = .ok (.getfield 28, 3) := by decide +kernel
theorem dX9_fairest_16 : decode cX9_fairest 16 = .ok (.getfield 186, 3) := by decide +kernel
theorem dX9_fairest_19 : decode cX9_fairest 19 = .ok (.ifCond .ne 6, 3) := by decide +kernel
theorem dX9_fairest_22 : decode cX9_fairest 22 = .ok (.ldc 189, 2) := by decide +kernel
theorem dX9_fairest_24 : decode cX9_fairest 24 = .ok (.ireturn, 1) := by decide +kernel
theorem dX9_fairest_25 : decode cX9_fairest 25 = .ok (.aload_n 0, 1) := by decide +kernel
theorem dX9_fairest_26 : decode cX9_fairest 26 = .ok (.getfield 65, 3) := by decide +kernel
theorem dX9_fairest_29 : decode cX9_fairest 29 = .ok (.invokevirtual 212, 3) := by decide +kernel
theorem dX9_fairest_32 : decode cX9_fairest 32 = .ok (.aload_n 0, 1) := by decide +kernel
theorem dX9_fairest_33 : decode cX9_fairest 33 = .ok (.getfield 65, 3) := by decide +kernel
theorem dX9_fairest_36 : decode cX9_fairest 36 = .ok (.invokevirtual 233, 3) := by decide +kernel
theorem dX9_fairest_39 : decode cX9_fairest 39 = .ok (.istore_n 2, 1) := by decide +kernel
theorem dX9_fairest_40 : decode cX9_fairest 40 = .ok (.iload_n 1, 1) := by decide +kernel
theorem dX9_fairest_41 : decode cX9_fairest 41 = .ok (.ifCond .ne 14, 3) := by decide +kernel
theorem dX9_fairest_44 : decode cX9_fairest 44 = .ok (.aload_n 0, 1) := by decide +kernel
theorem dX9_fairest_45 : decode cX9_fairest 45 = .ok (.getfield 28, 3) := by decide +kernel
theorem dX9_fairest_48 : decode cX9_fairest 48 = .ok (.iload_n 2, 1) := by decide +kernel
theorem dX9_fairest_49 : decode cX9_fairest 49 = .ok (.invokevirtual 135, 3) := by decide +kernel
theorem dX9_fairest_52 : decode cX9_fairest 52 = .ok (.goto 10, 3) := by decide +kernel
theorem dX9_fairest_55 : decode cX9_fairest 55 = .ok (.aload_n 0, 1) := by decide +kernel
theorem dX9_fairest_56 : decode cX9_fairest 56 = .ok (.getfield 65, 3) := by decide +kernel
theorem dX9_fairest_59 : decode cX9_fairest 59 = .ok (.getfield 236, 3) := by decide +kernel
theorem dX9_fairest_62 : decode cX9_fairest 62 = .ok (.ireturn, 1) := by decide +kernel
theorem dX9_watch_0 : decode cX9_watch 0 = .ok (.iload_n 1, 1) := by decide +kernel
theorem dX9_watch_1 : decode cX9_watch 1 = .ok (.ifCond .lt 8, 3) := by decide +kernel
theorem dX9_watch_4 : decode cX9_watch 4 = .ok (.iload_n 1, 1) := by decide +kernel
theorem dX9_watch_5 : decode cX9_watch 5 = .ok (.iconst 2, 1) := by decide +kernel
theorem dX9_watch_6 : decode cX9_watch 6 = .ok (.if_icmp .le 6, 3) := by decide +kernel
theorem dX9_watch_9 : decode cX9_watch 9 = .ok (.ldc 83, 2) := by decide +kernel
theorem dX9_watch_11 : decode cX9_watch 11 = .ok (.ireturn, 1) := by decide +kernel
theorem dX9_watch_12 : decode cX9_watch 12 = .ok (.aload_n 0, 1) := by decide +kernel
theorem dX9_watch_13 : decode cX9_watch 13 = .ok (.getfield 28, 3) := by decide +kernel
theorem dX9_watch_16 : decode cX9_watch 16 = .ok (.getfield 186, 3) := by decide +kernel
theorem dX9_watch_19 : decode cX9_watch 19 = .ok (.ifCond .ne 6, 3) := by decide +kernel
theorem dX9_watch_22 : decode cX9_watch 22 = .ok (.ldc 189, 2) := by decide +kernel
theorem dX9_watch_24 : decode cX9_watch 24 = .ok (.ireturn, 1) := by decide +kernel
theorem dX9_watch_25 : decode cX9_watch 25 = .ok (.aload_n 0, 1) := by decide +kernel
theorem dX9_watch_26 : decode cX9_watch 26 = .ok (.getfield 56, 3) := by decide +kernel
theorem dX9_watch_29 : decode cX9_watch 29 = .ok (.aload_n 0, 1) := by decide +kernel
theorem dX9_watch_30 : decode cX9_watch 30 = .ok (.getfield 37, 3) := by decide +kernel
theorem dX9_watch_33 : decode cX9_watch 33 = .ok (.getfield 142, 3) := by decide +kernel
theorem dX9_watch_36 : decode cX9_watch 36 = .ok (.invokevirtual 202, 3) := by decide +kernel
theorem dX9_watch_39 : decode cX9_watch 39 = .ok (.aload_n 0, 1) := by decide +kernel
theorem dX9_watch_40 : decode cX9_watch 40 = .ok (.getfield 56, 3) := by decide +kernel
theorem dX9_watch_43 : decode cX9_watch 43 = .ok (.iload_n 1, 1) := by decide +kernel
theorem dX9_watch_44 : decode cX9_watch 44 = .ok (.invokevirtual 239, 3) := by decide +kernel
theorem dX9_watch_47 : decode cX9_watch 47 = .ok (.ireturn, 1) := by decide +kernel
theorem dX9_see_0 : decode cX9_see 0 = .ok (.aload_n 0, 1) := by decide +kernel
theorem dX9_see_1 : decode cX9_see 1 = .ok (.getfield 28, 3) := by decide +kernel
theorem dX9_see_4 : decode cX9_see 4 = .ok (.iload_n 1, 1) := by decide +kernel
theorem dX9_see_5 : decode cX9_see 5 = .ok (.iload_n 2, 1) := by decide +kernel
theorem dX9_see_6 : decode cX9_see 6 = .ok (.invokevirtual 154, 3) := by decide +kernel
theorem dX9_see_9 : decode cX9_see 9 = .ok (.istore 4, 2) := by decide +kernel
theorem dX9_see_11 : decode cX9_see 11 = .ok (.aload_n 0, 1) := by decide +kernel
theorem dX9_see_12 : decode cX9_see 12 = .ok (.getfield 28, 3) := by decide +kernel
theorem dX9_see_15 : decode cX9_see 15 = .ok (.iload 4, 2) := by decide +kernel
theorem dX9_see_17 : decode cX9_see 17 = .ok (.invokevirtual 158, 3) := by decide +kernel
theorem dX9_see_20 : decode cX9_see 20 = .ok (.ifCond .ne 6, 3) := by decide +kernel
theorem dX9_see_23 : decode cX9_see 23 = .ok (.ldc 162, 2) := by decide +kernel
theorem dX9_see_25 : decode cX9_see 25 = .ok (.ireturn, 1) := by decide +kernel
theorem dX9_see_26 : decode cX9_see 26 = .ok (.iload_n 3, 1) := by decide +kernel
theorem dX9_see_27 : decode cX9_see 27 = .ok (.invokestatic 199, 3) := by decide +kernel
theorem dX9_see_30 : decode cX9_see 30 = .ok (.ifCond .ne 6, 3) := by decide +kernel
theorem dX9_see_33 : decode cX9_see 33 = .ok (.ldc 83, 2) := by decide +kernel
theorem dX9_see_35 : decode cX9_see 35 = .ok (.ireturn, 1) := by decide +kernel
theorem dX9_see_36 : decode cX9_see 36 = .ok (.aload_n 0, 1) := by decide +kernel
theorem dX9_see_37 : decode cX9_see 37 = .ok (.getfield 72, 3) := by decide +kernel
theorem dX9_see_40 : decode cX9_see 40 = .ok (.getfield 113, 3) := by decide +kernel
theorem dX9_see_43 : decode cX9_see 43 = .ok (.bipush 10, 2) := by decide +kernel
theorem dX9_see_45 : decode cX9_see 45 = .ok (.if_icmp .lt 6, 3) := by decide +kernel
theorem dX9_see_48 : decode cX9_see 48 = .ok (.ldc 88, 2) := by decide +kernel
theorem dX9_see_50 : decode cX9_see 50 = .ok (.ireturn, 1) := by decide +kernel
theorem dX9_see_51 : decode cX9_see 51 = .ok (.aload_n 0, 1) := by decide +kernel
theorem dX9_see_52 : decode cX9_see 52 = .ok (.getfield 72, 3) := by decide +kernel
theorem dX9_see_55 : decode cX9_see 55 = .ok (.iload 4, 2) := by decide +kernel
theorem dX9_see_57 : decode cX9_see 57 = .ok (.iload_n 3, 1) := by decide +kernel
theorem dX9_see_58 : decode cX9_see 58 = .ok (.invokevirtual 242, 3) := by decide +kernel
theorem dX9_see_61 : decode cX9_see 61 = .ok (.aload_n 0, 1) := by decide +kernel
theorem dX9_see_62 : decode cX9_see 62 = .ok (.getfield 72, 3) := by decide +kernel
theorem dX9_see_65 : decode cX9_see 65 = .ok (.getfield 113, 3) := by decide +kernel
theorem dX9_see_68 : decode cX9_see 68 = .ok (.ireturn, 1) := by decide +kernel
theorem dX9_lay_0 : decode cX9_lay 0 = .ok (.iload_n 1, 1) := by decide +kernel
theorem dX9_lay_1 : decode cX9_lay 1 = .ok (.iconst (-1), 1) := by decide +kernel
theorem dX9_lay_2 : decode cX9_lay 2 = .ok (.if_icmp .eq 13, 3) := by decide +kernel
theorem dX9_lay_5 : decode cX9_lay 5 = .ok (.iload_n 1, 1) := by decide +kernel
theorem dX9_lay_6 : decode cX9_lay 6 = .ok (.invokestatic 245, 3) := by decide +kernel
theorem dX9_lay_9 : decode cX9_lay 9 = .ok (.ifCond .ne 6, 3) := by decide +kernel
theorem dX9_lay_12 : decode cX9_lay 12 = .ok (.ldc 83, 2) := by decide +kernel
theorem dX9_lay_14 : decode cX9_lay 14 = .ok (.ireturn, 1) := by decide +kernel
theorem dX9_lay_15 : decode cX9_lay 15 = .ok (.aload_n 0, 1) := by decide +kernel
theorem dX9_lay_16 : decode cX9_lay 16 = .ok (.getfield 72, 3) := by decide +kernel
theorem dX9_lay_19 : decode cX9_lay 19 = .ok (.invokevirtual 248, 3) := by decide +kernel
theorem dX9_lay_22 : decode cX9_lay 22 = .ok (.iload_n 2, 1) := by decide +kernel
theorem dX9_lay_23 : decode cX9_lay 23 = .ok (.iconst (-1), 1) := by decide +kernel
theorem dX9_lay_24 : decode cX9_lay 24 = .ok (.if_icmp .ne 12, 3) := by decide +kernel
theorem dX9_lay_27 : decode cX9_lay 27 = .ok (.aload_n 0, 1) := by decide +kernel
theorem dX9_lay_28 : decode cX9_lay 28 = .ok (.getfield 72, 3) := by decide +kernel
theorem dX9_lay_31 : decode cX9_lay 31 = .ok (.iload_n 1, 1) := by decide +kernel
theorem dX9_lay_32 : decode cX9_lay 32 = .ok (.invokevirtual 251, 3) := by decide +kernel
theorem dX9_lay_35 : decode cX9_lay 35 = .ok (.ireturn, 1) := by decide +kernel
theorem dX9_lay_36 : decode cX9_lay 36 = .ok (.aload_n 0, 1) := by decide +kernel
theorem dX9_lay_37 : decode cX9_lay 37 = .ok (.getfield 28, 3) := by decide +kernel
theorem dX9_lay_40 : decode cX9_lay 40 = .ok (.aload_n 0, 1) := by decide +kernel
theorem dX9_lay_41 : decode cX9_lay 41 = .ok (.getfield 72, 3) := by decide +kernel
theorem dX9_lay_44 : decode cX9_lay 44 = .ok (.iload_n 1, 1) := by decide +kernel
theorem dX9_lay_45 : decode cX9_lay 45 = .ok (.iload_n 2, 1) := by decide +kernel
theorem dX9_lay_46 : decode cX9_lay 46 = .ok (.invokevirtual 254, 3) := by decide +kernel
theorem dX9_lay_49 : decode cX9_lay 49 = .ok (.invokevirtual 135, 3) := by decide +kernel
theorem dX9_lay_52 : decode cX9_lay 52 = .ok (.ireturn, 1) := by decide +kernel
theorem dX9_write_0 : decode cX9_write 0 = .ok (.aload_n 0, 1) := by decide +kernel
theorem dX9_write_1 : decode cX9_write 1 = .ok (.getfield 28, 3) := by decide +kernel
theorem dX9_write_4 : decode cX9_write 4 = .ok (.iload_n 1, 1) := by decide +kernel
theorem dX9_write_5 : decode cX9_write 5 = .ok (.iload_n 2, 1) := by decide +kernel
theorem dX9_write_6 : decode cX9_write 6 = .ok (.invokevirtual 154, 3) := by decide +kernel
theorem dX9_write_9 : decode cX9_write 9 = .ok (.istore 4, 2) := by decide +kernel
theorem dX9_write_11 : decode cX9_write 11 = .ok (.aload_n 0, 1) := by decide +kernel
theorem dX9_write_12 : decode cX9_write 12 = .ok (.getfield 28, 3) := by decide +kernel
theorem dX9_write_15 : decode cX9_write 15 = .ok (.iload 4, 2) := by decide +kernel
theorem dX9_write_17 : decode cX9_write 17 = .ok (.invokevirtual 158, 3) := by decide +kernel
theorem dX9_write_20 : decode cX9_write 20 = .ok (.ifCond .ne 6, 3) := by decide +kernel
theorem dX9_write_23 : decode cX9_write 23 = .ok (.ldc 162, 2) := by decide +kernel
theorem dX9_write_25 : decode cX9_write 25 = .ok (.ireturn, 1) := by decide +kernel
theorem dX9_write_26 : decode cX9_write 26 = .ok (.iload_n 3, 1) := by decide +kernel
theorem dX9_write_27 : decode cX9_write 27 = .ok (.invokestatic 245, 3) := by decide +kernel
theorem dX9_write_30 : decode cX9_write 30 = .ok (.ifCond .ne 6, 3) := by decide +kernel
theorem dX9_write_33 : decode cX9_write 33 = .ok (.ldc 83, 2) := by decide +kernel
theorem dX9_write_35 : decode cX9_write 35 = .ok (.ireturn, 1) := by decide +kernel
theorem dX9_write_36 : decode cX9_write 36 = .ok (.aload_n 0, 1) := by decide +kernel
theorem dX9_write_37 : decode cX9_write 37 = .ok (.getfield 79, 3) := by decide +kernel
theorem dX9_write_40 : decode cX9_write 40 = .ok (.getfield 116, 3) := by decide +kernel
theorem dX9_write_43 : decode cX9_write 43 = .ok (.bipush 30, 2) := by decide +kernel
theorem dX9_write_45 : decode cX9_write 45 = .ok (.if_icmp .lt 6, 3) := by decide +kernel
theorem dX9_write_48 : decode cX9_write 48 = .ok (.ldc 88, 2) := by decide +kernel
theorem dX9_write_50 : decode cX9_write 50 = .ok (.ireturn, 1) := by decide +kernel
theorem dX9_write_51 : decode cX9_write 51 = .ok (.aload_n 0, 1) := by decide +kernel
theorem dX9_write_52 : decode cX9_write 52 = .ok (.getfield 79, 3) := by decide +kernel
theorem dX9_write_55 : decode cX9_write 55 = .ok (.iload 4, 2) := by decide +kernel
theorem dX9_write_57 : decode cX9_write 57 = .ok (.iload_n 3, 1) := by decide +kernel
theorem dX9_write_58 : decode cX9_write 58 = .ok (.invokevirtual 257, 3) := by decide +kernel
theorem dX9_write_61 : decode cX9_write 61 = .ok (.aload_n 0, 1) := by decide +kernel
theorem dX9_write_62 : decode cX9_write 62 = .ok (.getfield 79, 3) := by decide +kernel
theorem dX9_write_65 : decode cX9_write 65 = .ok (.getfield 116, 3) := by decide +kernel
theorem dX9_write_68 : decode cX9_write 68 = .ok (.ireturn, 1) := by decide +kernel
theorem dX9_tear_0 : decode cX9_tear 0 = .ok (.aload_n 0, 1) := by decide +kernel
theorem dX9_tear_1 : decode cX9_tear 1 = .ok (.getfield 79, 3) := by decide +kernel
theorem dX9_tear_4 : decode cX9_tear 4 = .ok (.getfield 116, 3) := by decide +kernel
theorem dX9_tear_7 : decode cX9_tear 7 = .ok (.aload_n 0, 1) := by decide +kernel
theorem dX9_tear_8 : decode cX9_tear 8 = .ok (.getfield 72, 3) := by decide +kernel
theorem dX9_tear_11 : decode cX9_tear 11 = .ok (.getfield 113, 3) := by decide +kernel
theorem dX9_tear_14 : decode cX9_tear 14 = .ok (.iadd, 1) := by decide +kernel
theorem dX9_tear_15 : decode cX9_tear 15 = .ok (.istore_n 1, 1) := by decide +kernel
theorem dX9_tear_16 : decode cX9_tear 16 = .ok (.aload_n 0, 1) := by decide +kernel
theorem dX9_tear_17 : decode cX9_tear 17 = .ok (.getfield 79, 3) := by decide +kernel
theorem dX9_tear_20 : decode cX9_tear 20 = .ok (.iconst 0, 1) := by decide +kernel
theorem dX9_tear_21 : decode cX9_tear 21 = .ok (.putfield 116, 3) := by decide +kernel
theorem dX9_tear_24 : decode cX9_tear 24 = .ok (.aload_n 0, 1) := by decide +kernel
theorem dX9_tear_25 : decode cX9_tear 25 = .ok (.getfield 72, 3) := by decide +kernel
theorem dX9_tear_28 : decode cX9_tear 28 = .ok (.iconst 0, 1) := by decide +kernel
theorem dX9_tear_29 : decode cX9_tear 29 = .ok (.putfield 113, 3) := by decide +kernel
theorem dX9_tear_32 : decode cX9_tear 32 = .ok (.iload_n 1, 1) := by decide +kernel
theorem dX9_tear_33 : decode cX9_tear 33 = .ok (.ireturn, 1) := by decide +kernel
theorem dX9_judge_0 : decode cX9_judge 0 = .ok (.aload_n 0, 1) := by decide +kernel
theorem dX9_judge_1 : decode cX9_judge 1 = .ok (.getfield 79, 3) := by decide +kernel
theorem dX9_judge_4 : decode cX9_judge 4 = .ok (.aload_n 0, 1) := by decide +kernel
theorem dX9_judge_5 : decode cX9_judge 5 = .ok (.getfield 37, 3) := by decide +kernel
theorem dX9_judge_8 : decode cX9_judge 8 = .ok (.getfield 126, 3) := by decide +kernel
theorem dX9_judge_11 : decode cX9_judge 11 = .ok (.invokevirtual 258, 3) := by decide +kernel
theorem dX9_judge_14 : decode cX9_judge 14 = .ok (.ireturn, 1) := by decide +kernel
theorem dX9_seed_0 : decode cX9_seed 0 = .ok (.iload_n 1, 1) := by decide +kernel
theorem dX9_seed_1 : decode cX9_seed 1 = .ok (.ifCond .ge 6, 3) := by decide +kernel
theorem dX9_seed_4 : decode cX9_seed 4 = .ok (.ldc 83, 2) := by decide +kernel
theorem dX9_seed_6 : decode cX9_seed 6 = .ok (.ireturn, 1) := by decide +kernel
theorem dX9_seed_7 : decode cX9_seed 7 = .ok (.aload_n 0, 1) := by decide +kernel
theorem dX9_seed_8 : decode cX9_seed 8 = .ok (.getfield 37, 3) := by decide +kernel
theorem dX9_seed_11 : decode cX9_seed 11 = .ok (.getfield 261, 3) := by decide +kernel
theorem dX9_seed_14 : decode cX9_seed 14 = .ok (.istore_n 2, 1) := by decide +kernel
theorem dX9_seed_15 : decode cX9_seed 15 = .ok (.aload_n 0, 1) := by decide +kernel
theorem dX9_seed_16 : decode cX9_seed 16 = .ok (.getfield 37, 3) := by decide +kernel
theorem dX9_seed_19 : decode cX9_seed 19 = .ok (.iload_n 1, 1) := by decide +kernel
theorem dX9_seed_20 : decode cX9_seed 20 = .ok (.putfield 261, 3) := by decide +kernel
theorem dX9_seed_23 : decode cX9_seed 23 = .ok (.iload_n 2, 1) := by decide +kernel
theorem dX9_seed_24 : decode cX9_seed 24 = .ok (.ireturn, 1) := by decide +kernel
theorem dX9_keep_0 : decode cX9_keep 0 = .ok (.iload_n 1, 1) := by decide +kernel
theorem dX9_keep_1 : decode cX9_keep 1 = .ok (.invokestatic 264, 3) := by decide +kernel
theorem dX9_keep_4 : decode cX9_keep 4 = .ok (.ifCond .ne 6, 3) := by decide +kernel
theorem dX9_keep_7 : decode cX9_keep 7 = .ok (.ldc 162, 2) := by decide +kernel
theorem dX9_keep_9 : decode cX9_keep 9 = .ok (.ireturn, 1) := by decide +kernel
theorem dX9_keep_10 : decode cX9_keep 10 = .ok (.iload_n 1, 1) := by decide +kernel
theorem dX9_keep_11 : decode cX9_keep 11 = .ok (.ifCond .ne 10, 3) := by decide +kernel
theorem dX9_keep_14 : decode cX9_keep 14 = .ok (.aload_n 0, 1) := by decide +kernel
theorem dX9_keep_15 : decode cX9_keep 15 = .ok (.getfield 44, 3) := by decide +kernel
theorem dX9_keep_18 : decode cX9_keep 18 = .ok (.goto 7, 3) := by decide +kernel
theorem dX9_keep_21 : decode cX9_keep 21 = .ok (.aload_n 0, 1) := by decide +kernel
theorem dX9_keep_22 : decode cX9_keep 22 = .ok (.getfield 48, 3) := by decide +kernel
theorem dX9_keep_25 : decode cX9_keep 25 = .ok (.astore_n 2, 1) := by decide +kernel
theorem dX9_keep_26 : decode cX9_keep 26 = .ok (.aload_n 2, 1) := by decide +kernel
theorem dX9_keep_27 : decode cX9_keep 27 = .ok (.getfield 267, 3) := by decide +kernel
theorem dX9_keep_30 : decode cX9_keep 30 = .ok (.aload_n 0, 1) := by decide +kernel
theorem dX9_keep_31 : decode cX9_keep 31 = .ok (.getfield 37, 3) := by decide +kernel
theorem dX9_keep_34 : decode cX9_keep 34 = .ok (.invokevirtual 270, 3) := by decide +kernel
theorem dX9_keep_37 : decode cX9_keep 37 = .ok (.aload_n 2, 1) := by decide +kernel
theorem dX9_keep_38 : decode cX9_keep 38 = .ok (.iconst 1, 1) := by decide +kernel
theorem dX9_keep_39 : decode cX9_keep 39 = .ok (.putfield 109, 3) := by decide +kernel
theorem dX9_keep_42 : decode cX9_keep 42 = .ok (.iconst 1, 1) := by decide +kernel
theorem dX9_keep_43 : decode cX9_keep 43 = .ok (.ireturn, 1) := by decide +kernel
theorem dX9_goBack_0 : decode cX9_goBack 0 = .ok (.iload_n 1, 1) := by decide +kernel
theorem dX9_goBack_1 : decode cX9_goBack 1 = .ok (.invokestatic 264, 3) := by decide +kernel
theorem dX9_goBack_4 : decode cX9_goBack 4 = .ok (.ifCond .ne 6, 3) := by decide +kernel
theorem dX9_goBack_7 : decode cX9_goBack 7 = .ok (.ldc 162, 2) := by decide +kernel
theorem dX9_goBack_9 : decode cX9_goBack 9 = .ok (.ireturn, 1) := by decide +kernel
theorem dX9_goBack_10 : decode cX9_goBack 10 = .ok (.iload_n 1, 1) := by decide +kernel
theorem dX9_goBack_11 : decode cX9_goBack 11 = .ok (.ifCond .ne 10, 3) := by decide +kernel
theorem dX9_goBack_14 : decode cX9_goBack 14 = .ok (.aload_n 0, 1) := by decide +kernel
theorem dX9_goBack_15 : decode cX9_goBack 15 = .ok (.getfield 44, 3) := by decide +kernel
theorem dX9_goBack_18 : decode cX9_goBack 18 = .ok (.goto 7, 3) := by decide +kernel
theorem dX9_goBack_21 : decode cX9_goBack 21 = .ok (.aload_n 0, 1) := by decide +kernel
theorem dX9_goBack_22 : decode cX9_goBack 22 = .ok (.getfield 48, 3) := by decide +kernel
theorem dX9_goBack_25 : decode cX9_goBack 25 = .ok (.astore_n 2, 1) := by decide +kernel
theorem dX9_goBack_26 : decode cX9_goBack 26 = .ok (.aload_n 2, 1) := by decide +kernel
theorem dX9_goBack_27 : decode cX9_goBack 27 = .ok (.getfield 109, 3) := by decide +kernel
theorem dX9_goBack_30 : decode cX9_goBack 30 = .ok (.ifCond .ne 6, 3) := by decide +kernel
theorem dX9_goBack_33 : decode cX9_goBack 33 = .ok (.ldc 189, 2) := by decide +kernel
theorem dX9_goBack_35 : decode cX9_goBack 35 = .ok (.ireturn, 1) := by decide +kernel
theorem dX9_goBack_36 : decode cX9_goBack 36 = .ok (.aload_n 0, 1) := by decide +kernel
theorem dX9_goBack_37 : decode cX9_goBack 37 = .ok (.getfield 37, 3) := by decide +kernel
theorem dX9_goBack_40 : decode cX9_goBack 40 = .ok (.aload_n 2, 1) := by decide +kernel
theorem dX9_goBack_41 : decode cX9_goBack 41 = .ok (.getfield 267, 3) := by decide +kernel
theorem dX9_goBack_44 : decode cX9_goBack 44 = .ok (.invokevirtual 270, 3) := by decide +kernel
theorem dX9_goBack_47 : decode cX9_goBack 47 = .ok (.iconst 1, 1) := by decide +kernel
theorem dX9_goBack_48 : decode cX9_goBack 48 = .ok (.ireturn, 1) := by decide +kernel
theorem dX9_isParish_0 : decode cX9_isParish 0 = .ok (.iload_n 0, 1) := by decide +kernel
theorem dX9_isParish_1 : decode cX9_isParish 1 = .ok (.ifCond .eq 8, 3) := by decide +kernel
theorem dX9_isParish_4 : decode cX9_isParish 4 = .ok (.iload_n 0, 1) := by decide +kernel
theorem dX9_isParish_5 : decode cX9_isParish 5 = .ok (.iconst 1, 1) := by decide +kernel
theorem dX9_isParish_6 : decode cX9_isParish 6 = .ok (.if_icmp .ne 7, 3) := by decide +kernel
theorem dX9_isParish_9 : decode cX9_isParish 9 = .ok (.iconst 1, 1) := by decide +kernel
theorem dX9_isParish_10 : decode cX9_isParish 10 = .ok (.goto 4, 3) := by decide +kernel
theorem dX9_isParish_13 : decode cX9_isParish 13 = .ok (.iconst 0, 1) := by decide +kernel
theorem dX9_isParish_14 : decode cX9_isParish 14 = .ok (.ireturn, 1) := by decide +kernel
theorem dX9_isImage_0 : decode cX9_isImage 0 = .ok (.iload_n 0, 1) := by decide +kernel
theorem dX9_isImage_1 : decode cX9_isImage 1 = .ok (.ifCond .eq 8, 3) := by decide +kernel
theorem dX9_isImage_4 : decode cX9_isImage 4 = .ok (.iload_n 0, 1) := by decide +kernel
theorem dX9_isImage_5 : decode cX9_isImage 5 = .ok (.iconst 1, 1) := by decide +kernel
theorem dX9_isImage_6 : decode cX9_isImage 6 = .ok (.if_icmp .ne 7, 3) := by decide +kernel
theorem dX9_isImage_9 : decode cX9_isImage 9 = .ok (.iconst 1, 1) := by decide +kernel
theorem dX9_isImage_10 : decode cX9_isImage 10 = .ok (.goto 4, 3) := by decide +kernel
theorem dX9_isImage_13 : decode cX9_isImage 13 = .ok (.iconst 0, 1) := by decide +kernel
theorem dX9_isImage_14 : decode cX9_isImage 14 = .ok (.ireturn, 1) := by decide +kernel
theorem dX9_isClover_0 : decode cX9_isClover 0 = .ok (.iload_n 0, 1) := by decide +kernel
theorem dX9_isClover_1 : decode cX9_isClover 1 = .ok (.iconst 1, 1) := by decide +kernel
theorem dX9_isClover_2 : decode cX9_isClover 2 = .ok (.if_icmp .lt 13, 3) := by decide +kernel
theorem dX9_isClover_5 : decode cX9_isClover 5 = .ok (.iload_n 0, 1) := by decide +kernel
theorem dX9_isClover_6 : decode cX9_isClover 6 = .ok (.bipush 9, 2) := by decide +kernel
theorem dX9_isClover_8 : decode cX9_isClover 8 = .ok (.if_icmp .gt 7, 3) := by decide +kernel
theorem dX9_isClover_11 : decode cX9_isClover 11 = .ok (.iconst 1, 1) := by decide +kernel
theorem dX9_isClover_12 : decode cX9_isClover 12 = .ok (.goto 4, 3) := by decide +kernel
theorem dX9_isClover_15 : decode cX9_isClover 15 = .ok (.iconst 0, 1) := by decide +kernel
theorem dX9_isClover_16 : decode cX9_isClover 16 = .ok (.ireturn, 1) := by decide +kernel
theorem dX9_isHourOn_0 : decode cX9_isHourOn 0 = .ok (.iload_n 0, 1) := by decide +kernel
theorem dX9_isHourOn_1 : decode cX9_isHourOn 1 = .ok (.ifCond .lt 13, 3) := by decide +kernel
theorem dX9_isHourOn_4 : decode cX9_isHourOn 4 = .ok (.iload_n 0, 1) := by decide +kernel
theorem dX9_isHourOn_5 : decode cX9_isHourOn 5 = .ok (.bipush 12, 2) := by decide +kernel
theorem dX9_isHourOn_7 : decode cX9_isHourOn 7 = .ok (.if_icmp .gt 7, 3) := by decide +kernel
theorem dX9_isHourOn_10 : decode cX9_isHourOn 10 = .ok (.iconst 1, 1) := by decide +kernel
theorem dX9_isHourOn_11 : decode cX9_isHourOn 11 = .ok (.goto 4, 3) := by decide +kernel
theorem dX9_isHourOn_14 : decode cX9_isHourOn 14 = .ok (.iconst 0, 1) := by decide +kernel
theorem dX9_isHourOn_15 : decode cX9_isHourOn 15 = .ok (.ireturn, 1) := by decide +kernel
theorem dX9_isSum_0 : decode cX9_isSum 0 = .ok (.iload_n 0, 1) := by decide +kernel
theorem dX9_isSum_1 : decode cX9_isSum 1 = .ok (.ifCond .lt 14, 3) := by decide +kernel
theorem dX9_isSum_4 : decode cX9_isSum 4 = .ok (.iload_n 0, 1) := by decide +kernel
theorem dX9_isSum_5 : decode cX9_isSum 5 = .ok (.sipush 9999, 3) := by decide +kernel
theorem dX9_isSum_8 : decode cX9_isSum 8 = .ok (.if_icmp .gt 7, 3) := by decide +kernel
theorem dX9_isSum_11 : decode cX9_isSum 11 = .ok (.iconst 1, 1) := by decide +kernel
theorem dX9_isSum_12 : decode cX9_isSum 12 = .ok (.goto 4, 3) := by decide +kernel
theorem dX9_isSum_15 : decode cX9_isSum 15 = .ok (.iconst 0, 1) := by decide +kernel
theorem dX9_isSum_16 : decode cX9_isSum 16 = .ok (.ireturn, 1) := by decide +kernel
theorem dX9_sown_0 : decode cX9_sown 0 = .ok (.bipush 18, 2) := by decide +kernel
theorem dX9_sown_2 : decode cX9_sown 2 = .ok (.iload_n 0, 1) := by decide +kernel
theorem dX9_sown_3 : decode cX9_sown 3 = .ok (.iload_n 1, 1) := by decide +kernel
theorem dX9_sown_4 : decode cX9_sown 4 = .ok (.iadd, 1) := by decide +kernel
theorem dX9_sown_5 : decode cX9_sown 5 = .ok (.invokestatic 273, 3) := by decide +kernel
theorem dX9_sown_8 : decode cX9_sown 8 = .ok (.ireturn, 1) := by decide +kernel
theorem dJ9_abs_0f7a4_0 : decode cJ9_abs_0f7a4 0 = .ok (.iload_n 0, 1) := by decide +kernel
theorem dJ9_abs_0f7a4_1 : decode cJ9_abs_0f7a4 1 = .ok (.ifCond .ge 8, 3) := by decide +kernel
theorem dJ9_abs_0f7a4_4 : decode cJ9_abs_0f7a4 4 = .ok (.iload_n 0, 1) := by decide +kernel
theorem dJ9_abs_0f7a4_5 : decode cJ9_abs_0f7a4 5 = .ok (.ineg, 1) := by decide +kernel
theorem dJ9_abs_0f7a4_6 : decode cJ9_abs_0f7a4 6 = .ok (.goto 4, 3) := by decide +kernel
theorem dJ9_abs_0f7a4_9 : decode cJ9_abs_0f7a4 9 = .ok (.iload_n 0, 1) := by decide +kernel
theorem dJ9_abs_0f7a4_10 : decode cJ9_abs_0f7a4 10 = .ok (.ireturn, 1) := by decide +kernel
theorem dJ9_max_7cf53_0 : decode cJ9_max_7cf53 0 = .ok (.iload_n 0, 1) := by decide +kernel
theorem dJ9_max_7cf53_1 : decode cJ9_max_7cf53 1 = .ok (.iload_n 1, 1) := by decide +kernel
theorem dJ9_max_7cf53_2 : decode cJ9_max_7cf53 2 = .ok (.if_icmp .lt 7, 3) := by decide +kernel
theorem dJ9_max_7cf53_5 : decode cJ9_max_7cf53 5 = .ok (.iload_n 0, 1) := by decide +kernel
theorem dJ9_max_7cf53_6 : decode cJ9_max_7cf53 6 = .ok (.goto 4, 3) := by decide +kernel
theorem dJ9_max_7cf53_9 : decode cJ9_max_7cf53 9 = .ok (.iload_n 1, 1) := by decide +kernel
theorem dJ9_max_7cf53_10 : decode cJ9_max_7cf53 10 = .ok (.ireturn, 1) := by decide +kernel
theorem dJ9_min_7cf53_0 : decode cJ9_min_7cf53 0 = .ok (.iload_n 0, 1) := by decide +kernel
theorem dJ9_min_7cf53_1 : decode cJ9_min_7cf53 1 = .ok (.iload_n 1, 1) := by decide +kernel
theorem dJ9_min_7cf53_2 : decode cJ9_min_7cf53 2 = .ok (.if_icmp .gt 7, 3) := by decide +kernel
theorem dJ9_min_7cf53_5 : decode cJ9_min_7cf53 5 = .ok (.iload_n 0, 1) := by decide +kernel
theorem dJ9_min_7cf53_6 : decode cJ9_min_7cf53 6 = .ok (.goto 4, 3) := by decide +kernel
theorem dJ9_min_7cf53_9 : decode cJ9_min_7cf53 9 = .ok (.iload_n 1, 1) := by decide +kernel
theorem dJ9_min_7cf53_10 : decode cJ9_min_7cf53 10 = .ok (.ireturn, 1) := by decide +kernel
theorem dJ0_length_8abf5_0 : decode cJ0_length_8abf5 0 = .ok (.aload_n 0, 1) := by decide +kernel
theorem dJ0_length_8abf5_1 : decode cJ0_length_8abf5 1 = .ok (.getfield 9, 3) := by decide +kernel
theorem dJ0_length_8abf5_4 : decode cJ0_length_8abf5 4 = .ok (.arraylength, 1) := by decide +kernel
theorem dJ0_length_8abf5_5 : decode cJ0_length_8abf5 5 = .ok (.aload_n 0, 1) := by decide +kernel
theorem dJ0_length_8abf5_6 : decode cJ0_length_8abf5 6 = .ok (.invokevirtual 335, 3) := by decide +kernel
theorem dJ0_length_8abf5_9 : decode cJ0_length_8abf5 9 = .ok (.ishr, 1) := by decide +kernel
theorem dJ0_length_8abf5_10 : decode cJ0_length_8abf5 10 = .ok (.ireturn, 1) := by decide +kernel
theorem dJ0_charAt_5068e_0 : decode cJ0_charAt_5068e 0 = .ok (.aload_n 0, 1) := by decide +kernel
theorem dJ0_charAt_5068e_1 : decode cJ0_charAt_5068e 1 = .ok (.invokevirtual 492, 3) := by decide +kernel
theorem dJ0_charAt_5068e_4 : decode cJ0_charAt_5068e 4 = .ok (.ifCond .eq 12, 3) := by decide +kernel
theorem dJ0_charAt_5068e_7 : decode cJ0_charAt_5068e 7 = .ok (.aload_n 0, 1) := by decide +kernel
theorem dJ0_charAt_5068e_8 : decode cJ0_charAt_5068e 8 = .ok (.getfield 9, 3) := by decide +kernel
theorem dJ0_charAt_5068e_11 : decode cJ0_charAt_5068e 11 = .ok (.iload_n 1, 1) := by decide +kernel
theorem dJ0_charAt_5068e_12 : decode cJ0_charAt_5068e 12 = .ok (.invokestatic 495, 3) := by decide +kernel
theorem dJ0_charAt_5068e_15 : decode cJ0_charAt_5068e 15 = .ok (.ireturn, 1) := by decide +kernel
theorem dJ0_charAt_5068e_16 : decode cJ0_charAt_5068e 16 = .ok (.aload_n 0, 1) := by decide +kernel
theorem dJ0_charAt_5068e_17 : decode cJ0_charAt_5068e 17 = .ok (.getfield 9, 3) := by decide +kernel
theorem dJ0_charAt_5068e_20 : decode cJ0_charAt_5068e 20 = .ok (.iload_n 1, 1) := by decide +kernel
theorem dJ0_charAt_5068e_21 : decode cJ0_charAt_5068e 21 = .ok (.invokestatic 498, 3) := by decide +kernel
theorem dJ0_charAt_5068e_24 : decode cJ0_charAt_5068e 24 = .ok (.ireturn, 1) := by decide +kernel
theorem dJ0_coder_7d493_0 : decode cJ0_coder_7d493 0 = .ok (.getstatic 38, 3) := by decide +kernel
theorem dJ0_coder_7d493_3 : decode cJ0_coder_7d493 3 = .ok (.ifCond .eq 10, 3) := by decide +kernel
theorem dJ0_coder_7d493_6 : decode cJ0_coder_7d493 6 = .ok (.aload_n 0, 1) := by decide +kernel
theorem dJ0_coder_7d493_7 : decode cJ0_coder_7d493 7 = .ok (.getfield 15, 3) := by decide +kernel
theorem dJ0_coder_7d493_10 : decode cJ0_coder_7d493 10 = .ok (.goto 4, 3) := by decide +kernel
theorem dJ0_coder_7d493_13 : decode cJ0_coder_7d493 13 = .ok (.iconst 1, 1) := by decide +kernel
theorem dJ0_coder_7d493_14 : decode cJ0_coder_7d493 14 = .ok (.ireturn, 1) := by decide +kernel
theorem dJ0_isLatin1_aae02_0 : decode cJ0_isLatin1_aae02 0 = .ok (.getstatic 38, 3) := by decide +kernel
theorem dJ0_isLatin1_aae02_3 : decode cJ0_isLatin1_aae02 3 = .ok (.ifCond .eq 14, 3) := by decide +kernel
theorem dJ0_isLatin1_aae02_6 : decode cJ0_isLatin1_aae02 6 = .ok (.aload_n 0, 1) := by decide +kernel
theorem dJ0_isLatin1_aae02_7 : decode cJ0_isLatin1_aae02 7 = .ok (.getfield 15, 3) := by decide +kernel
theorem dJ0_isLatin1_aae02_10 : decode cJ0_isLatin1_aae02 10 = .ok (.ifCond .ne 7, 3) := by decide +kernel
theorem dJ0_isLatin1_aae02_13 : decode cJ0_isLatin1_aae02 13 = .ok (.iconst 1, 1) := by decide +kernel
theorem dJ0_isLatin1_aae02_14 : decode cJ0_isLatin1_aae02 14 = .ok (.goto 4, 3) := by decide +kernel
theorem dJ0_isLatin1_aae02_17 : decode cJ0_isLatin1_aae02 17 = .ok (.iconst 0, 1) := by decide +kernel
theorem dJ0_isLatin1_aae02_18 : decode cJ0_isLatin1_aae02 18 = .ok (.ireturn, 1) := by decide +kernel
theorem dJ0_checkIndex_df160_0 : decode cJ0_checkIndex_df160 0 = .ok (.iload_n 0, 1) := by decide +kernel
theorem dJ0_checkIndex_df160_1 : decode cJ0_checkIndex_df160 1 = .ok (.iload_n 1, 1) := by decide +kernel
theorem dJ0_checkIndex_df160_2 : decode cJ0_checkIndex_df160 2 = .ok (.getstatic 1053, 3) := by decide +kernel
theorem dJ0_checkIndex_df160_5 : decode cJ0_checkIndex_df160 5 = .ok (.invokestatic 1059, 3) := by decide +kernel
theorem dJ0_checkIndex_df160_8 : decode cJ0_checkIndex_df160 8 = .ok (.pop, 1) := by decide +kernel
theorem dJ0_checkIndex_df160_9 : decode cJ0_checkIndex_df160 9 = .ok (.return_, 1) := by decide +kernel
theorem dJ1_charAt_3b067_0 : decode cJ1_charAt_3b067 0 = .ok (.iload_n 1, 1) := by decide +kernel
theorem dJ1_charAt_3b067_1 : decode cJ1_charAt_3b067 1 = .ok (.aload_n 0, 1) := by decide +kernel
theorem dJ1_charAt_3b067_2 : decode cJ1_charAt_3b067 2 = .ok (.arraylength, 1) := by decide +kernel
theorem dJ1_charAt_3b067_3 : decode cJ1_charAt_3b067 3 = .ok (.invokestatic 9, 3) := by decide +kernel
theorem dJ1_charAt_3b067_6 : decode cJ1_charAt_3b067 6 = .ok (.aload_n 0, 1) := by decide +kernel
theorem dJ1_charAt_3b067_7 : decode cJ1_charAt_3b067 7 = .ok (.iload_n 1, 1) := by decide +kernel
theorem dJ1_charAt_3b067_8 : decode cJ1_charAt_3b067 8 = .ok (.baload, 1) := by decide +kernel
theorem dJ1_charAt_3b067_9 : decode cJ1_charAt_3b067 9 = .ok (.sipush 255, 3) := by decide +kernel
theorem dJ1_charAt_3b067_12 : decode cJ1_charAt_3b067 12 = .ok (.iand, 1) := by decide +kernel
theorem dJ1_charAt_3b067_13 : decode cJ1_charAt_3b067 13 = .ok (.i2c, 1) := by decide +kernel
theorem dJ1_charAt_3b067_14 : decode cJ1_charAt_3b067 14 = .ok (.ireturn, 1) := by decide +kernel
theorem dJ2_getChar_3b067_0 : decode cJ2_getChar_3b067 0 = .ok (.getstatic 44, 3) := by decide +kernel
theorem dJ2_getChar_3b067_3 : decode cJ2_getChar_3b067 3 = .ok (.ifCond .ne 25, 3) := by decide +kernel
theorem dJ2_getChar_3b067_6 : decode cJ2_getChar_3b067 6 = .ok (.iload_n 1, 1) := by decide +kernel
theorem dJ2_getChar_3b067_7 : decode cJ2_getChar_3b067 7 = .ok (.ifCond .lt 11, 3) := by decide +kernel
theorem dJ2_getChar_3b067_10 : decode cJ2_getChar_3b067 10 = .ok (.iload_n 1, 1) := by decide +kernel
theorem dJ2_getChar_3b067_11 : decode cJ2_getChar_3b067 11 = .ok (.aload_n 0, 1) := by decide +kernel
theorem dJ2_getChar_3b067_12 : decode cJ2_getChar_3b067 12 = .ok (.invokestatic 48, 3) := by decide +kernel
theorem dJ2_getChar_3b067_15 : decode cJ2_getChar_3b067 15 = .ok (.if_icmp .lt 13, 3) := by decide +kernel
theorem dJ2_getChar_3b067_18 : decode cJ2_getChar_3b067 18 = .ok (.new 52, 3) := by decide +kernel
theorem dJ2_getChar_3b067_21 : decode cJ2_getChar_3b067 21 = .ok (.dup, 1) := by decide +kernel
theorem dJ2_getChar_3b067_22 : decode cJ2_getChar_3b067 22 = .ok (.ldc 54, 2) := by decide +kernel
theorem dJ2_getChar_3b067_24 : decode cJ2_getChar_3b067 24 = .ok (.invokespecial 56, 3) := by decide +kernel
theorem dJ2_getChar_3b067_27 : decode cJ2_getChar_3b067 27 = .ok (.athrow, 1) := by decide +kernel
theorem dJ2_getChar_3b067_28 : decode cJ2_getChar_3b067 28 = .ok (.iload_n 1, 1) := by decide +kernel
theorem dJ2_getChar_3b067_29 : decode cJ2_getChar_3b067 29 = .ok (.iconst 1, 1) := by decide +kernel
theorem dJ2_getChar_3b067_30 : decode cJ2_getChar_3b067 30 = .ok (.ishl, 1) := by decide +kernel
theorem dJ2_getChar_3b067_31 : decode cJ2_getChar_3b067 31 = .ok (.istore_n 1, 1) := by decide +kernel
theorem dJ2_getChar_3b067_32 : decode cJ2_getChar_3b067 32 = .ok (.aload_n 0, 1) := by decide +kernel
theorem dJ2_getChar_3b067_33 : decode cJ2_getChar_3b067 33 = .ok (.iload_n 1, 1) := by decide +kernel
theorem dJ2_getChar_3b067_34 : decode cJ2_getChar_3b067 34 = .ok (.iinc 1 1, 3) := by decide +kernel
theorem dJ2_getChar_3b067_37 : decode cJ2_getChar_3b067 37 = .ok (.baload, 1) := by decide +kernel
theorem dJ2_getChar_3b067_38 : decode cJ2_getChar_3b067 38 = .ok (.sipush 255, 3) := by decide +kernel
theorem dJ2_getChar_3b067_41 : decode cJ2_getChar_3b067 41 = .ok (.iand, 1) := by decide +kernel
theorem dJ2_getChar_3b067_42 : decode cJ2_getChar_3b067 42 = .ok (.getstatic 59, 3) := by decide +kernel
theorem dJ2_getChar_3b067_45 : decode cJ2_getChar_3b067 45 = .ok (.ishl, 1) := by decide +kernel
theorem dJ2_getChar_3b067_46 : decode cJ2_getChar_3b067 46 = .ok (.aload_n 0, 1) := by decide +kernel
theorem dJ2_getChar_3b067_47 : decode cJ2_getChar_3b067 47 = .ok (.iload_n 1, 1) := by decide +kernel
theorem dJ2_getChar_3b067_48 : decode cJ2_getChar_3b067 48 = .ok (.baload, 1) := by decide +kernel
theorem dJ2_getChar_3b067_49 : decode cJ2_getChar_3b067 49 = .ok (.sipush 255, 3) := by decide +kernel
theorem dJ2_getChar_3b067_52 : decode cJ2_getChar_3b067 52 = .ok (.iand, 1) := by decide +kernel
theorem dJ2_getChar_3b067_53 : decode cJ2_getChar_3b067 53 = .ok (.getstatic 63, 3) := by decide +kernel
theorem dJ2_getChar_3b067_56 : decode cJ2_getChar_3b067 56 = .ok (.ishl, 1) := by decide +kernel
theorem dJ2_getChar_3b067_57 : decode cJ2_getChar_3b067 57 = .ok (.ior, 1) := by decide +kernel
theorem dJ2_getChar_3b067_58 : decode cJ2_getChar_3b067 58 = .ok (.i2c, 1) := by decide +kernel
theorem dJ2_getChar_3b067_59 : decode cJ2_getChar_3b067 59 = .ok (.ireturn, 1) := by decide +kernel
theorem dJ2_length_9d52b_0 : decode cJ2_length_9d52b 0 = .ok (.aload_n 0, 1) := by decide +kernel
theorem dJ2_length_9d52b_1 : decode cJ2_length_9d52b 1 = .ok (.arraylength, 1) := by decide +kernel
theorem dJ2_length_9d52b_2 : decode cJ2_length_9d52b 2 = .ok (.iconst 1, 1) := by decide +kernel
theorem dJ2_length_9d52b_3 : decode cJ2_length_9d52b 3 = .ok (.ishr, 1) := by decide +kernel
theorem dJ2_length_9d52b_4 : decode cJ2_length_9d52b 4 = .ok (.ireturn, 1) := by decide +kernel
theorem dJ2_charAt_3b067_0 : decode cJ2_charAt_3b067 0 = .ok (.iload_n 1, 1) := by decide +kernel
theorem dJ2_charAt_3b067_1 : decode cJ2_charAt_3b067 1 = .ok (.aload_n 0, 1) := by decide +kernel
theorem dJ2_charAt_3b067_2 : decode cJ2_charAt_3b067 2 = .ok (.invokestatic 67, 3) := by decide +kernel
theorem dJ2_charAt_3b067_5 : decode cJ2_charAt_3b067 5 = .ok (.aload_n 0, 1) := by decide +kernel
theorem dJ2_charAt_3b067_6 : decode cJ2_charAt_3b067 6 = .ok (.iload_n 1, 1) := by decide +kernel
theorem dJ2_charAt_3b067_7 : decode cJ2_charAt_3b067 7 = .ok (.invokestatic 71, 3) := by decide +kernel
theorem dJ2_charAt_3b067_10 : decode cJ2_charAt_3b067 10 = .ok (.ireturn, 1) := by decide +kernel
theorem dJ2_checkIndex_2214a_0 : decode cJ2_checkIndex_2214a 0 = .ok (.iload_n 0, 1) := by decide +kernel
theorem dJ2_checkIndex_2214a_1 : decode cJ2_checkIndex_2214a 1 = .ok (.aload_n 1, 1) := by decide +kernel
theorem dJ2_checkIndex_2214a_2 : decode cJ2_checkIndex_2214a 2 = .ok (.invokestatic 48, 3) := by decide +kernel
theorem dJ2_checkIndex_2214a_5 : decode cJ2_checkIndex_2214a 5 = .ok (.invokestatic 414, 3) := by decide +kernel
theorem dJ2_checkIndex_2214a_8 : decode cJ2_checkIndex_2214a 8 = .ok (.return_, 1) := by decide +kernel
theorem dJ3_checkIndex_8e157_0 : decode cJ3_checkIndex_8e157 0 = .ok (.iload_n 0, 1) := by decide +kernel
theorem dJ3_checkIndex_8e157_1 : decode cJ3_checkIndex_8e157 1 = .ok (.ifCond .lt 8, 3) := by decide +kernel
theorem dJ3_checkIndex_8e157_4 : decode cJ3_checkIndex_8e157 4 = .ok (.iload_n 0, 1) := by decide +kernel
theorem dJ3_checkIndex_8e157_5 : decode cJ3_checkIndex_8e157 5 = .ok (.iload_n 1, 1) := by decide +kernel
theorem dJ3_checkIndex_8e157_6 : decode cJ3_checkIndex_8e157 6 = .ok (.if_icmp .lt 10, 3) := by decide +kernel
theorem dJ3_checkIndex_8e157_9 : decode cJ3_checkIndex_8e157 9 = .ok (.aload_n 2, 1) := by decide +kernel
theorem dJ3_checkIndex_8e157_10 : decode cJ3_checkIndex_8e157 10 = .ok (.iload_n 0, 1) := by decide +kernel
theorem dJ3_checkIndex_8e157_11 : decode cJ3_checkIndex_8e157 11 = .ok (.iload_n 1, 1) := by decide +kernel
theorem dJ3_checkIndex_8e157_12 : decode cJ3_checkIndex_8e157 12 = .ok (.invokestatic 95, 3) := by decide +kernel
theorem dJ3_checkIndex_8e157_15 : decode cJ3_checkIndex_8e157 15 = .ok (.athrow, 1) := by decide +kernel
theorem dJ3_checkIndex_8e157_16 : decode cJ3_checkIndex_8e157 16 = .ok (.iload_n 0, 1) := by decide +kernel
theorem dJ3_checkIndex_8e157_17 : decode cJ3_checkIndex_8e157 17 = .ok (.ireturn, 1) := by decide +kernel
