theorem dX0_init_0 : decode cX0_init 0 = .ok (.aload_n 0, 1) := by decide +kernel
theorem dX0_init_1 : decode cX0_init 1 = .ok (.invokespecial 3, 3) := by decide +kernel
theorem dX0_init_4 : decode cX0_init 4 = .ok (.aload_n 0, 1) := by decide +kernel
theorem dX0_init_5 : decode cX0_init 5 = .ok (.iconst (-1), 1) := by decide +kernel
theorem dX0_init_6 : decode cX0_init 6 = .ok (.putfield 9, 3) := by decide +kernel
theorem dX0_init_9 : decode cX0_init 9 = .ok (.aload_n 0, 1) := by decide +kernel
theorem dX0_init_10 : decode cX0_init 10 = .ok (.iload_n 1, 1) := by decide +kernel
theorem dX0_init_11 : decode cX0_init 11 = .ok (.putfield 15, 3) := by decide +kernel
theorem dX0_init_14 : decode cX0_init 14 = .ok (.aload_n 0, 1) := by decide +kernel
theorem dX0_init_15 : decode cX0_init 15 = .ok (.iload_n 2, 1) := by decide +kernel
theorem dX0_init_16 : decode cX0_init 16 = .ok (.putfield 18, 3) := by decide +kernel
theorem dX0_init_19 : decode cX0_init 19 = .ok (.return_, 1) := by decide +kernel
theorem dX0_open_0 : decode cX0_open 0 = .ok (.aload_n 0, 1) := by decide +kernel
theorem dX0_open_1 : decode cX0_open 1 = .ok (.iconst 0, 1) := by decide +kernel
theorem dX0_open_2 : decode cX0_open 2 = .ok (.putfield 9, 3) := by decide +kernel
theorem dX0_open_5 : decode cX0_open 5 = .ok (.aload_n 0, 1) := by decide +kernel
theorem dX0_open_6 : decode cX0_open 6 = .ok (.iconst 0, 1) := by decide +kernel
theorem dX0_open_7 : decode cX0_open 7 = .ok (.putfield 21, 3) := by decide +kernel
theorem dX0_open_10 : decode cX0_open 10 = .ok (.return_, 1) := by decide +kernel
theorem dX0_finish_0 : decode cX0_finish 0 = .ok (.aload_n 0, 1) := by decide +kernel
theorem dX0_finish_1 : decode cX0_finish 1 = .ok (.iconst 3, 1) := by decide +kernel
theorem dX0_finish_2 : decode cX0_finish 2 = .ok (.putfield 9, 3) := by decide +kernel
theorem dX0_finish_5 : decode cX0_finish 5 = .ok (.aload_n 0, 1) := by decide +kernel
theorem dX0_finish_6 : decode cX0_finish 6 = .ok (.iload_n 1, 1) := by decide +kernel
theorem dX0_finish_7 : decode cX0_finish 7 = .ok (.putfield 24, 3) := by decide +kernel
theorem dX0_finish_10 : decode cX0_finish 10 = .ok (.aload_n 0, 1) := by decide +kernel
theorem dX0_finish_11 : decode cX0_finish 11 = .ok (.iload_n 2, 1) := by decide +kernel
theorem dX0_finish_12 : decode cX0_finish 12 = .ok (.putfield 27, 3) := by decide +kernel
theorem dX0_finish_15 : decode cX0_finish 15 = .ok (.aload_n 0, 1) := by decide +kernel
theorem dX0_finish_16 : decode cX0_finish 16 = .ok (.aload_n 0, 1) := by decide +kernel
theorem dX0_finish_17 : decode cX0_finish 17 = .ok (.getfield 21, 3) := by decide +kernel
theorem dX0_finish_20 : decode cX0_finish 20 = .ok (.ifCond .le 7, 3) := by decide +kernel
theorem dX0_finish_23 : decode cX0_finish 23 = .ok (.iconst 1, 1) := by decide +kernel
theorem dX0_finish_24 : decode cX0_finish 24 = .ok (.goto 4, 3) := by decide +kernel
theorem dX0_finish_27 : decode cX0_finish 27 = .ok (.iconst 0, 1) := by decide +kernel
theorem dX0_finish_28 : decode cX0_finish 28 = .ok (.putfield 30, 3) := by decide +kernel
theorem dX0_finish_31 : decode cX0_finish 31 = .ok (.return_, 1) := by decide +kernel
theorem dX0_isUnfinished_0 : decode cX0_isUnfinished 0 = .ok (.aload_n 0, 1) := by decide +kernel
theorem dX0_isUnfinished_1 : decode cX0_isUnfinished 1 = .ok (.getfield 9, 3) := by decide +kernel
theorem dX0_isUnfinished_4 : decode cX0_isUnfinished 4 = .ok (.ifCond .eq 19, 3) := by decide +kernel
theorem dX0_isUnfinished_7 : decode cX0_isUnfinished 7 = .ok (.aload_n 0, 1) := by decide +kernel
theorem dX0_isUnfinished_8 : decode cX0_isUnfinished 8 = .ok (.getfield 9, 3) := by decide +kernel
theorem dX0_isUnfinished_11 : decode cX0_isUnfinished 11 = .ok (.iconst 1, 1) := by decide +kernel
theorem dX0_isUnfinished_12 : decode cX0_isUnfinished 12 = .ok (.if_icmp .eq 11, 3) := by decide +kernel
theorem dX0_isUnfinished_15 : decode cX0_isUnfinished 15 = .ok (.aload_n 0, 1) := by decide +kernel
theorem dX0_isUnfinished_16 : decode cX0_isUnfinished 16 = .ok (.getfield 9, 3) := by decide +kernel
theorem dX0_isUnfinished_19 : decode cX0_isUnfinished 19 = .ok (.iconst 2, 1) := by decide +kernel
theorem dX0_isUnfinished_20 : decode cX0_isUnfinished 20 = .ok (.if_icmp .ne 7, 3) := by decide +kernel
theorem dX0_isUnfinished_23 : decode cX0_isUnfinished 23 = .ok (.iconst 1, 1) := by decide +kernel
theorem dX0_isUnfinished_24 : decode cX0_isUnfinished 24 = .ok (.goto 4, 3) := by decide +kernel
theorem dX0_isUnfinished_27 : decode cX0_isUnfinished 27 = .ok (.iconst 0, 1) := by decide +kernel
theorem dX0_isUnfinished_28 : decode cX0_isUnfinished 28 = .ok (.ireturn, 1) := by decide +kernel
theorem dX0_isSound_0 : decode cX0_isSound 0 = .ok (.aload_n 0, 1) := by decide +kernel
theorem dX0_isSound_1 : decode cX0_isSound 1 = .ok (.getfield 9, 3) := by decide +kernel
theorem dX0_isSound_4 : decode cX0_isSound 4 = .ok (.iconst 3, 1) := by decide +kernel
theorem dX0_isSound_5 : decode cX0_isSound 5 = .ok (.if_icmp .ne 14, 3) := by decide +kernel
theorem dX0_isSound_8 : decode cX0_isSound 8 = .ok (.aload_n 0, 1) := by decide +kernel
theorem dX0_isSound_9 : decode cX0_isSound 9 = .ok (.getfield 30, 3) := by decide +kernel
theorem dX0_isSound_12 : decode cX0_isSound 12 = .ok (.ifCond .ne 7, 3) := by decide +kernel
theorem dX0_isSound_15 : decode cX0_isSound 15 = .ok (.iconst 1, 1) := by decide +kernel
theorem dX0_isSound_16 : decode cX0_isSound 16 = .ok (.goto 4, 3) := by decide +kernel
theorem dX0_isSound_19 : decode cX0_isSound 19 = .ok (.iconst 0, 1) := by decide +kernel
theorem dX0_isSound_20 : decode cX0_isSound 20 = .ok (.ireturn, 1) := by decide +kernel
theorem dX1_init_0 : decode cX1_init 0 = .ok (.aload_n 0, 1) := by decide +kernel
theorem dX1_init_1 : decode cX1_init 1 = .ok (.invokespecial 3, 3) := by decide +kernel
theorem dX1_init_4 : decode cX1_init 4 = .ok (.aload_n 0, 1) := by decide +kernel
theorem dX1_init_5 : decode cX1_init 5 = .ok (.bipush 40, 2) := by decide +kernel
theorem dX1_init_7 : decode cX1_init 7 = .ok (.anewarray 9, 3) := by decide +kernel
theorem dX1_init_10 : decode cX1_init 10 = .ok (.putfield 11, 3) := by decide +kernel
theorem dX1_init_13 : decode cX1_init 13 = .ok (.iconst 0, 1) := by decide +kernel
theorem dX1_init_14 : decode cX1_init 14 = .ok (.istore_n 1, 1) := by decide +kernel
theorem dX1_init_15 : decode cX1_init 15 = .ok (.iload_n 1, 1) := by decide +kernel
theorem dX1_init_16 : decode cX1_init 16 = .ok (.bipush 40, 2) := by decide +kernel
theorem dX1_init_18 : decode cX1_init 18 = .ok (.if_icmp .ge 22, 3) := by decide +kernel
theorem dX1_init_21 : decode cX1_init 21 = .ok (.aload_n 0, 1) := by decide +kernel
theorem dX1_init_22 : decode cX1_init 22 = .ok (.getfield 11, 3) := by decide +kernel
theorem dX1_init_25 : decode cX1_init 25 = .ok (.iload_n 1, 1) := by decide +kernel
theorem dX1_init_26 : decode cX1_init 26 = .ok (.new 9, 3) := by decide +kernel
theorem dX1_init_29 : decode cX1_init 29 = .ok (.dup, 1) := by decide +kernel
theorem dX1_init_30 : decode cX1_init 30 = .ok (.invokespecial 17, 3) := by decide +kernel
theorem dX1_init_33 : decode cX1_init 33 = .ok (.aastore, 1) := by decide +kernel
theorem dX1_init_34 : decode cX1_init 34 = .ok (.iinc 1 1, 3) := by decide +kernel
theorem dX1_init_37 : decode cX1_init 37 = .ok (.goto (-22), 3) := by decide +kernel
theorem dX1_init_40 : decode cX1_init 40 = .ok (.return_, 1) := by decide +kernel
theorem dX1_entryAt_0 : decode cX1_entryAt 0 = .ok (.iload_n 1, 1) := by decide +kernel
theorem dX1_entryAt_1 : decode cX1_entryAt 1 = .ok (.ifCond .lt 30, 3) := by decide +kernel
theorem dX1_entryAt_4 : decode cX1_entryAt 4 = .ok (.iload_n 1, 1) := by decide +kernel
theorem dX1_entryAt_5 : decode cX1_entryAt 5 = .ok (.aload_n 0, 1) := by decide +kernel
theorem dX1_entryAt_6 : decode cX1_entryAt 6 = .ok (.getfield 18, 3) := by decide +kernel
theorem dX1_entryAt_9 : decode cX1_entryAt 9 = .ok (.if_icmp .ge 22, 3) := by decide +kernel
theorem dX1_entryAt_12 : decode cX1_entryAt 12 = .ok (.aload_n 0, 1) := by decide +kernel
theorem dX1_entryAt_13 : decode cX1_entryAt 13 = .ok (.getfield 11, 3) := by decide +kernel
theorem dX1_entryAt_16 : decode cX1_entryAt 16 = .ok (.aload_n 0, 1) := by decide +kernel
theorem dX1_entryAt_17 : decode cX1_entryAt 17 = .ok (.getfield 22, 3) := by decide +kernel
theorem dX1_entryAt_20 : decode cX1_entryAt 20 = .ok (.iload_n 1, 1) := by decide +kernel
theorem dX1_entryAt_21 : decode cX1_entryAt 21 = .ok (.iadd, 1) := by decide +kernel
theorem dX1_entryAt_22 : decode cX1_entryAt 22 = .ok (.bipush 40, 2) := by decide +kernel
theorem dX1_entryAt_24 : decode cX1_entryAt 24 = .ok (.invokestatic 25, 3) := by decide +kernel
theorem dX1_entryAt_27 : decode cX1_entryAt 27 = .ok (.aaload, 1) := by decide +kernel
theorem dX1_entryAt_28 : decode cX1_entryAt 28 = .ok (.goto 4, 3) := by decide +kernel
theorem dX1_entryAt_31 : decode cX1_entryAt 31 = .ok (.aconst_null, 1) := by decide +kernel
theorem dX1_entryAt_32 : decode cX1_entryAt 32 = .ok (.areturn, 1) := by decide +kernel
theorem dX1_keep_0 : decode cX1_keep 0 = .ok (.aload_n 0, 1) := by decide +kernel
theorem dX1_keep_1 : decode cX1_keep 1 = .ok (.iload_n 1, 1) := by decide +kernel
theorem dX1_keep_2 : decode cX1_keep 2 = .ok (.iload_n 2, 1) := by decide +kernel
theorem dX1_keep_3 : decode cX1_keep 3 = .ok (.iload_n 3, 1) := by decide +kernel
theorem dX1_keep_4 : decode cX1_keep 4 = .ok (.iload 4, 2) := by decide +kernel
theorem dX1_keep_6 : decode cX1_keep 6 = .ok (.iload 5, 2) := by decide +kernel
theorem dX1_keep_8 : decode cX1_keep 8 = .ok (.invokevirtual 31, 3) := by decide +kernel
theorem dX1_keep_11 : decode cX1_keep 11 = .ok (.ifCond .eq 4, 3) := by decide +kernel
theorem dX1_keep_14 : decode cX1_keep 14 = .ok (.return_, 1) := by decide +kernel
theorem dX1_keep_15 : decode cX1_keep 15 = .ok (.aload_n 0, 1) := by decide +kernel
theorem dX1_keep_16 : decode cX1_keep 16 = .ok (.getfield 18, 3) := by decide +kernel
theorem dX1_keep_19 : decode cX1_keep 19 = .ok (.bipush 40, 2) := by decide +kernel
theorem dX1_keep_21 : decode cX1_keep 21 = .ok (.if_icmp .ge 16, 3) := by decide +kernel
theorem dX1_keep_24 : decode cX1_keep 24 = .ok (.aload_n 0, 1) := by decide +kernel
theorem dX1_keep_25 : decode cX1_keep 25 = .ok (.dup, 1) := by decide +kernel
theorem dX1_keep_26 : decode cX1_keep 26 = .ok (.getfield 18, 3) := by decide +kernel
theorem dX1_keep_29 : decode cX1_keep 29 = .ok (.iconst 1, 1) := by decide +kernel
theorem dX1_keep_30 : decode cX1_keep 30 = .ok (.iadd, 1) := by decide +kernel
theorem dX1_keep_31 : decode cX1_keep 31 = .ok (.putfield 18, 3) := by decide +kernel
theorem dX1_keep_34 : decode cX1_keep 34 = .ok (.goto 16, 3) := by decide +kernel
theorem dX1_keep_37 : decode cX1_keep 37 = .ok (.aload_n 0, 1) := by decide +kernel
theorem dX1_keep_38 : decode cX1_keep 38 = .ok (.aload_n 0, 1) := by decide +kernel
theorem dX1_keep_39 : decode cX1_keep 39 = .ok (.getfield 22, 3) := by decide +kernel
theorem dX1_keep_42 : decode cX1_keep 42 = .ok (.iconst 1, 1) := by decide +kernel
theorem dX1_keep_43 : decode cX1_keep 43 = .ok (.iadd, 1) := by decide +kernel
theorem dX1_keep_44 : decode cX1_keep 44 = .ok (.bipush 40, 2) := by decide +kernel
theorem dX1_keep_46 : decode cX1_keep 46 = .ok (.irem, 1) := by decide +kernel
theorem dX1_keep_47 : decode cX1_keep 47 = .ok (.putfield 22, 3) := by decide +kernel
theorem dX1_keep_50 : decode cX1_keep 50 = .ok (.aload_n 0, 1) := by decide +kernel
theorem dX1_keep_51 : decode cX1_keep 51 = .ok (.aload_n 0, 1) := by decide +kernel
theorem dX1_keep_52 : decode cX1_keep 52 = .ok (.getfield 18, 3) := by decide +kernel
theorem dX1_keep_55 : decode cX1_keep 55 = .ok (.iconst 1, 1) := by decide +kernel
theorem dX1_keep_56 : decode cX1_keep 56 = .ok (.isub, 1) := by decide +kernel
theorem dX1_keep_57 : decode cX1_keep 57 = .ok (.invokevirtual 35, 3) := by decide +kernel
theorem dX1_keep_60 : decode cX1_keep 60 = .ok (.astore 6, 2) := by decide +kernel
theorem dX1_keep_62 : decode cX1_keep 62 = .ok (.aload 6, 2) := by decide +kernel
theorem dX1_keep_64 : decode cX1_keep 64 = .ok (.ifnull 15, 3) := by decide +kernel
theorem dX1_keep_67 : decode cX1_keep 67 = .ok (.aload 6, 2) := by decide +kernel
theorem dX1_keep_69 : decode cX1_keep 69 = .ok (.iload_n 1, 1) := by decide +kernel
theorem dX1_keep_70 : decode cX1_keep 70 = .ok (.iload_n 2, 1) := by decide +kernel
theorem dX1_keep_71 : decode cX1_keep 71 = .ok (.iload_n 3, 1) := by decide +kernel
theorem dX1_keep_72 : decode cX1_keep 72 = .ok (.iload 4, 2) := by decide +kernel
theorem dX1_keep_74 : decode cX1_keep 74 = .ok (.iload 5, 2) := by decide +kernel
theorem dX1_keep_76 : decode cX1_keep 76 = .ok (.invokevirtual 39, 3) := by decide +kernel
theorem dX1_keep_79 : decode cX1_keep 79 = .ok (.return_, 1) := by decide +kernel
theorem dX1_hasAlike_0 : decode cX1_hasAlike 0 = .ok (.iconst 0, 1) := by decide +kernel
theorem dX1_hasAlike_1 : decode cX1_hasAlike 1 = .ok (.istore 6, 2) := by decide +kernel
theorem dX1_hasAlike_3 : decode cX1_hasAlike 3 = .ok (.iload 6, 2) := by decide +kernel
theorem dX1_hasAlike_5 : decode cX1_hasAlike 5 = .ok (.aload_n 0, 1) := by decide +kernel
theorem dX1_hasAlike_6 : decode cX1_hasAlike 6 = .ok (.getfield 18, 3) := by decide +kernel
theorem dX1_hasAlike_9 : decode cX1_hasAlike 9 = .ok (.if_icmp .ge 55, 3) := by decide +kernel
theorem dX1_hasAlike_12 : decode cX1_hasAlike 12 = .ok (.aload_n 0, 1) := by decide +kernel
theorem dX1_hasAlike_13 : decode cX1_hasAlike 13 = .ok (.iload 6, 2) := by decide +kernel
theorem dX1_hasAlike_15 : decode cX1_hasAlike 15 = .ok (.invokevirtual 35, 3) := by decide +kernel
theorem dX1_hasAlike_18 : decode cX1_hasAlike 18 = .ok (.astore 7, 2) := by decide +kernel
theorem dX1_hasAlike_20 : decode cX1_hasAlike 20 = .ok (.aload 7, 2) := by decide +kernel
theorem dX1_hasAlike_22 : decode cX1_hasAlike 22 = .ok (.ifnull 36, 3) := by decide +kernel
theorem dX1_hasAlike_25 : decode cX1_hasAlike 25 = .ok (.aload 7, 2) := by decide +kernel
theorem dX1_hasAlike_27 : decode cX1_hasAlike 27 = .ok (.iload_n 1, 1) := by decide +kernel
theorem dX1_hasAlike_28 : decode cX1_hasAlike 28 = .ok (.iload_n 2, 1) := by decide +kernel
theorem dX1_hasAlike_29 : decode cX1_hasAlike 29 = .ok (.iload_n 3, 1) := by decide +kernel
theorem dX1_hasAlike_30 : decode cX1_hasAlike 30 = .ok (.invokevirtual 43, 3) := by decide +kernel
theorem dX1_hasAlike_33 : decode cX1_hasAlike 33 = .ok (.ifCond .eq 25, 3) := by decide +kernel
theorem dX1_hasAlike_36 : decode cX1_hasAlike 36 = .ok (.aload 7, 2) := by decide +kernel
theorem dX1_hasAlike_38 : decode cX1_hasAlike 38 = .ok (.getfield 47, 3) := by decide +kernel
theorem dX1_hasAlike_41 : decode cX1_hasAlike 41 = .ok (.iload 4, 2) := by decide +kernel
theorem dX1_hasAlike_43 : decode cX1_hasAlike 43 = .ok (.if_icmp .ne 15, 3) := by decide +kernel
theorem dX1_hasAlike_46 : decode cX1_hasAlike 46 = .ok (.aload 7, 2) := by decide +kernel
theorem dX1_hasAlike_48 : decode cX1_hasAlike 48 = .ok (.getfield 50, 3) := by decide +kernel
theorem dX1_hasAlike_51 : decode cX1_hasAlike 51 = .ok (.iload 5, 2) := by decide +kernel
theorem dX1_hasAlike_53 : decode cX1_hasAlike 53 = .ok (.if_icmp .ne 5, 3) := by decide +kernel
theorem dX1_hasAlike_56 : decode cX1_hasAlike 56 = .ok (.iconst 1, 1) := by decide +kernel
theorem dX1_hasAlike_57 : decode cX1_hasAlike 57 = .ok (.ireturn, 1) := by decide +kernel
theorem dX1_hasAlike_58 : decode cX1_hasAlike 58 = .ok (.iinc 6 1, 3) := by decide +kernel
theorem dX1_hasAlike_61 : decode cX1_hasAlike 61 = .ok (.goto (-58), 3) := by decide +kernel
theorem dX1_hasAlike_64 : decode cX1_hasAlike 64 = .ok (.iconst 0, 1) := by decide +kernel
theorem dX1_hasAlike_65 : decode cX1_hasAlike 65 = .ok (.ireturn, 1) := by decide +kernel
theorem dX1_firstFit_0 : decode cX1_firstFit 0 = .ok (.iconst 0, 1) := by decide +kernel
theorem dX1_firstFit_1 : decode cX1_firstFit 1 = .ok (.istore 5, 2) := by decide +kernel
theorem dX1_firstFit_3 : decode cX1_firstFit 3 = .ok (.iload 5, 2) := by decide +kernel
theorem dX1_firstFit_5 : decode cX1_firstFit 5 = .ok (.aload_n 0, 1) := by decide +kernel
theorem dX1_firstFit_6 : decode cX1_firstFit 6 = .ok (.getfield 18, 3) := by decide +kernel
theorem dX1_firstFit_9 : decode cX1_firstFit 9 = .ok (.if_icmp .ge 49, 3) := by decide +kernel
theorem dX1_firstFit_12 : decode cX1_firstFit 12 = .ok (.aload_n 0, 1) := by decide +kernel
theorem dX1_firstFit_13 : decode cX1_firstFit 13 = .ok (.iload 5, 2) := by decide +kernel
theorem dX1_firstFit_15 : decode cX1_firstFit 15 = .ok (.invokevirtual 35, 3) := by decide +kernel
theorem dX1_firstFit_18 : decode cX1_firstFit 18 = .ok (.astore 6, 2) := by decide +kernel
theorem dX1_firstFit_20 : decode cX1_firstFit 20 = .ok (.aload 6, 2) := by decide +kernel
theorem dX1_firstFit_22 : decode cX1_firstFit 22 = .ok (.ifnull 30, 3) := by decide +kernel
theorem dX1_firstFit_25 : decode cX1_firstFit 25 = .ok (.aload 6, 2) := by decide +kernel
theorem dX1_firstFit_27 : decode cX1_firstFit 27 = .ok (.iload_n 1, 1) := by decide +kernel
theorem dX1_firstFit_28 : decode cX1_firstFit 28 = .ok (.iload_n 2, 1) := by decide +kernel
theorem dX1_firstFit_29 : decode cX1_firstFit 29 = .ok (.iload_n 3, 1) := by decide +kernel
theorem dX1_firstFit_30 : decode cX1_firstFit 30 = .ok (.invokevirtual 43, 3) := by decide +kernel
theorem dX1_firstFit_33 : decode cX1_firstFit 33 = .ok (.ifCond .eq 19, 3) := by decide +kernel
theorem dX1_firstFit_36 : decode cX1_firstFit 36 = .ok (.iload 4, 2) := by decide +kernel
theorem dX1_firstFit_38 : decode cX1_firstFit 38 = .ok (.ifCond .eq 11, 3) := by decide +kernel
theorem dX1_firstFit_41 : decode cX1_firstFit 41 = .ok (.aload 6, 2) := by decide +kernel
theorem dX1_firstFit_43 : decode cX1_firstFit 43 = .ok (.invokevirtual 53, 3) := by decide +kernel
theorem dX1_firstFit_46 : decode cX1_firstFit 46 = .ok (.ifCond .eq 6, 3) := by decide +kernel
theorem dX1_firstFit_49 : decode cX1_firstFit 49 = .ok (.aload 6, 2) := by decide +kernel
theorem dX1_firstFit_51 : decode cX1_firstFit 51 = .ok (.areturn, 1) := by decide +kernel
theorem dX1_firstFit_52 : decode cX1_firstFit 52 = .ok (.iinc 5 1, 3) := by decide +kernel
theorem dX1_firstFit_55 : decode cX1_firstFit 55 = .ok (.goto (-52), 3) := by decide +kernel
theorem dX1_firstFit_58 : decode cX1_firstFit 58 = .ok (.aconst_null, 1) := by decide +kernel
theorem dX1_firstFit_59 : decode cX1_firstFit 59 = .ok (.areturn, 1) := by decide +kernel
theorem dX2_init_0 : decode cX2_init 0 = .ok (.aload_n 0, 1) := by decide +kernel
theorem dX2_init_1 : decode cX2_init 1 = .ok (.invokespecial 3, 3) := by decide +kernel
theorem dX2_init_4 : decode cX2_init 4 = .ok (.aload_n 0, 1) := by decide +kernel
theorem dX2_init_5 : decode cX2_init 5 = .ok (.new 9, 3) := by decide +kernel
theorem dX2_init_8 : decode cX2_init 8 = .ok (.dup, 1) := by decide +kernel
theorem dX2_init_9 : decode cX2_init 9 = .ok (.iconst 0, 1) := by decide +kernel
theorem dX2_init_10 : decode cX2_init 10 = .ok (.iconst 1, 1) := by decide +kernel
theorem dX2_init_11 : decode cX2_init 11 = .ok (.invokespecial 11, 3) := by decide +kernel
theorem dX2_init_14 : decode cX2_init 14 = .ok (.putfield 14, 3) := by decide +kernel
theorem dX2_init_17 : decode cX2_init 17 = .ok (.aload_n 0, 1) := by decide +kernel
theorem dX2_init_18 : decode cX2_init 18 = .ok (.iconst 4, 1) := by decide +kernel
theorem dX2_init_19 : decode cX2_init 19 = .ok (.anewarray 9, 3) := by decide +kernel
theorem dX2_init_22 : decode cX2_init 22 = .ok (.putfield 20, 3) := by decide +kernel
theorem dX2_init_25 : decode cX2_init 25 = .ok (.aload_n 0, 1) := by decide +kernel
theorem dX2_init_26 : decode cX2_init 26 = .ok (.iconst 5, 1) := by decide +kernel
theorem dX2_init_27 : decode cX2_init 27 = .ok (.newarray .int, 2) := by decide +kernel
theorem dX2_init_29 : decode cX2_init 29 = .ok (.putfield 24, 3) := by decide +kernel
theorem dX2_init_32 : decode cX2_init 32 = .ok (.aload_n 0, 1) := by decide +kernel
theorem dX2_init_33 : decode cX2_init 33 = .ok (.iconst 1, 1) := by decide +kernel
theorem dX2_init_34 : decode cX2_init 34 = .ok (.putfield 28, 3) := by decide +kernel
theorem dX2_init_37 : decode cX2_init 37 = .ok (.aload_n 0, 1) := by decide +kernel
theorem dX2_init_38 : decode cX2_init 38 = .ok (.aload_n 1, 1) := by decide +kernel
theorem dX2_init_39 : decode cX2_init 39 = .ok (.putfield 32, 3) := by decide +kernel
theorem dX2_init_42 : decode cX2_init 42 = .ok (.aload_n 0, 1) := by decide +kernel
theorem dX2_init_43 : decode cX2_init 43 = .ok (.aload_n 2, 1) := by decide +kernel
theorem dX2_init_44 : decode cX2_init 44 = .ok (.putfield 36, 3) := by decide +kernel
theorem dX2_init_47 : decode cX2_init 47 = .ok (.aload_n 0, 1) := by decide +kernel
theorem dX2_init_48 : decode cX2_init 48 = .ok (.aload_n 3, 1) := by decide +kernel
theorem dX2_init_49 : decode cX2_init 49 = .ok (.putfield 40, 3) := by decide +kernel
theorem dX2_init_52 : decode cX2_init 52 = .ok (.aload_n 0, 1) := by decide +kernel
theorem dX2_init_53 : decode cX2_init 53 = .ok (.getfield 20, 3) := by decide +kernel
theorem dX2_init_56 : decode cX2_init 56 = .ok (.iconst 0, 1) := by decide +kernel
theorem dX2_init_57 : decode cX2_init 57 = .ok (.aload_n 0, 1) := by decide +kernel
theorem dX2_init_58 : decode cX2_init 58 = .ok (.getfield 14, 3) := by decide +kernel
theorem dX2_init_61 : decode cX2_init 61 = .ok (.aastore, 1) := by decide +kernel
theorem dX2_init_62 : decode cX2_init 62 = .ok (.iconst 1, 1) := by decide +kernel
theorem dX2_init_63 : decode cX2_init 63 = .ok (.istore 4, 2) := by decide +kernel
theorem dX2_init_65 : decode cX2_init 65 = .ok (.iload 4, 2) := by decide +kernel
theorem dX2_init_67 : decode cX2_init 67 = .ok (.iconst 4, 1) := by decide +kernel
theorem dX2_init_68 : decode cX2_init 68 = .ok (.if_icmp .ge 26, 3) := by decide +kernel
theorem dX2_init_71 : decode cX2_init 71 = .ok (.aload_n 0, 1) := by decide +kernel
theorem dX2_init_72 : decode cX2_init 72 = .ok (.getfield 20, 3) := by decide +kernel
theorem dX2_init_75 : decode cX2_init 75 = .ok (.iload 4, 2) := by decide +kernel
theorem dX2_init_77 : decode cX2_init 77 = .ok (.new 9, 3) := by decide +kernel
theorem dX2_init_80 : decode cX2_init 80 = .ok (.dup, 1) := by decide +kernel
theorem dX2_init_81 : decode cX2_init 81 = .ok (.iload 4, 2) := by decide +kernel
theorem dX2_init_83 : decode cX2_init 83 = .ok (.iconst 0, 1) := by decide +kernel
theorem dX2_init_84 : decode cX2_init 84 = .ok (.invokespecial 11, 3) := by decide +kernel
theorem dX2_init_87 : decode cX2_init 87 = .ok (.aastore, 1) := by decide +kernel
theorem dX2_init_88 : decode cX2_init 88 = .ok (.iinc 4 1, 3) := by decide +kernel
theorem dX2_init_91 : decode cX2_init 91 = .ok (.goto (-26), 3) := by decide +kernel
theorem dX2_init_94 : decode cX2_init 94 = .ok (.return_, 1) := by decide +kernel
theorem dX2_tally_0 : decode cX2_tally 0 = .ok (.aload_n 0, 1) := by decide +kernel
theorem dX2_tally_1 : decode cX2_tally 1 = .ok (.getfield 24, 3) := by decide +kernel
theorem dX2_tally_4 : decode cX2_tally 4 = .ok (.iload_n 1, 1) := by decide +kernel
theorem dX2_tally_5 : decode cX2_tally 5 = .ok (.aload_n 0, 1) := by decide +kernel
theorem dX2_tally_6 : decode cX2_tally 6 = .ok (.getfield 24, 3) := by decide +kernel
theorem dX2_tally_9 : decode cX2_tally 9 = .ok (.iload_n 1, 1) := by decide +kernel
theorem dX2_tally_10 : decode cX2_tally 10 = .ok (.invokestatic 44, 3) := by decide +kernel
theorem dX2_tally_13 : decode cX2_tally 13 = .ok (.iconst 1, 1) := by decide +kernel
theorem dX2_tally_14 : decode cX2_tally 14 = .ok (.iadd, 1) := by decide +kernel
theorem dX2_tally_15 : decode cX2_tally 15 = .ok (.invokestatic 48, 3) := by decide +kernel
theorem dX2_tally_18 : decode cX2_tally 18 = .ok (.return_, 1) := by decide +kernel
theorem dX2_begin_0 : decode cX2_begin 0 = .ok (.aload_n 0, 1) := by decide +kernel
theorem dX2_begin_1 : decode cX2_begin 1 = .ok (.aload_n 0, 1) := by decide +kernel
theorem dX2_begin_2 : decode cX2_begin 2 = .ok (.getfield 32, 3) := by decide +kernel
theorem dX2_begin_5 : decode cX2_begin 5 = .ok (.iload_n 1, 1) := by decide +kernel
theorem dX2_begin_6 : decode cX2_begin 6 = .ok (.invokevirtual 52, 3) := by decide +kernel
theorem dX2_begin_9 : decode cX2_begin 9 = .ok (.putfield 58, 3) := by decide +kernel
theorem dX2_begin_12 : decode cX2_begin 12 = .ok (.aload_n 0, 1) := by decide +kernel
theorem dX2_begin_13 : decode cX2_begin 13 = .ok (.dup, 1) := by decide +kernel
theorem dX2_begin_14 : decode cX2_begin 14 = .ok (.getfield 62, 3) := by decide +kernel
theorem dX2_begin_17 : decode cX2_begin 17 = .ok (.iconst 1, 1) := by decide +kernel
theorem dX2_begin_18 : decode cX2_begin 18 = .ok (.iadd, 1) := by decide +kernel
theorem dX2_begin_19 : decode cX2_begin 19 = .ok (.putfield 62, 3) := by decide +kernel
theorem dX2_begin_22 : decode cX2_begin 22 = .ok (.iconst 0, 1) := by decide +kernel
theorem dX2_begin_23 : decode cX2_begin 23 = .ok (.istore_n 2, 1) := by decide +kernel
theorem dX2_begin_24 : decode cX2_begin 24 = .ok (.iconst 0, 1) := by decide +kernel
theorem dX2_begin_25 : decode cX2_begin 25 = .ok (.istore_n 3, 1) := by decide +kernel
theorem dX2_begin_26 : decode cX2_begin 26 = .ok (.iload_n 3, 1) := by decide +kernel
theorem dX2_begin_27 : decode cX2_begin 27 = .ok (.aload_n 0, 1) := by decide +kernel
theorem dX2_begin_28 : decode cX2_begin 28 = .ok (.getfield 32, 3) := by decide +kernel
theorem dX2_begin_31 : decode cX2_begin 31 = .ok (.getfield 65, 3) := by decide +kernel
theorem dX2_begin_34 : decode cX2_begin 34 = .ok (.if_icmp .ge 62, 3) := by decide +kernel
theorem dX2_begin_37 : decode cX2_begin 37 = .ok (.aload_n 0, 1) := by decide +kernel
theorem dX2_begin_38 : decode cX2_begin 38 = .ok (.getfield 32, 3) := by decide +kernel
theorem dX2_begin_41 : decode cX2_begin 41 = .ok (.iload_n 3, 1) := by decide +kernel
theorem dX2_begin_42 : decode cX2_begin 42 = .ok (.invokevirtual 68, 3) := by decide +kernel
theorem dX2_begin_45 : decode cX2_begin 45 = .ok (.astore 4, 2) := by decide +kernel
theorem dX2_begin_47 : decode cX2_begin 47 = .ok (.aload_n 0, 1) := by decide +kernel
theorem dX2_begin_48 : decode cX2_begin 48 = .ok (.getfield 58, 3) := by decide +kernel
theorem dX2_begin_51 : decode cX2_begin 51 = .ok (.iload_n 3, 1) := by decide +kernel
theorem dX2_begin_52 : decode cX2_begin 52 = .ok (.invokestatic 72, 3) := by decide +kernel
theorem dX2_begin_55 : decode cX2_begin 55 = .ok (.iconst 1, 1) := by decide +kernel
theorem dX2_begin_56 : decode cX2_begin 56 = .ok (.if_icmp .ne 7, 3) := by decide +kernel
theorem dX2_begin_59 : decode cX2_begin 59 = .ok (.iconst 1, 1) := by decide +kernel
theorem dX2_begin_60 : decode cX2_begin 60 = .ok (.goto 4, 3) := by decide +kernel
theorem dX2_begin_63 : decode cX2_begin 63 = .ok (.iconst 0, 1) := by decide +kernel
theorem dX2_begin_64 : decode cX2_begin 64 = .ok (.istore 5, 2) := by decide +kernel
theorem dX2_begin_66 : decode cX2_begin 66 = .ok (.aload 4, 2) := by decide +kernel
theorem dX2_begin_68 : decode cX2_begin 68 = .ok (.iload 5, 2) := by decide +kernel
theorem dX2_begin_70 : decode cX2_begin 70 = .ok (.invokevirtual 76, 3) := by decide +kernel
theorem dX2_begin_73 : decode cX2_begin 73 = .ok (.iload_n 2, 1) := by decide +kernel
theorem dX2_begin_74 : decode cX2_begin 74 = .ok (.iload 5, 2) := by decide +kernel
theorem dX2_begin_76 : decode cX2_begin 76 = .ok (.ifCond .eq 11, 3) := by decide +kernel
theorem dX2_begin_79 : decode cX2_begin 79 = .ok (.aload 4, 2) := by decide +kernel
theorem dX2_begin_81 : decode cX2_begin 81 = .ok (.getfield 82, 3) := by decide +kernel
theorem dX2_begin_84 : decode cX2_begin 84 = .ok (.goto 4, 3) := by decide +kernel
theorem dX2_begin_87 : decode cX2_begin 87 = .ok (.iconst 0, 1) := by decide +kernel
theorem dX2_begin_88 : decode cX2_begin 88 = .ok (.iadd, 1) := by decide +kernel
theorem dX2_begin_89 : decode cX2_begin 89 = .ok (.istore_n 2, 1) := by decide +kernel
theorem dX2_begin_90 : decode cX2_begin 90 = .ok (.iinc 3 1, 3) := by decide +kernel
theorem dX2_begin_93 : decode cX2_begin 93 = .ok (.goto (-67), 3) := by decide +kernel
theorem dX2_begin_96 : decode cX2_begin 96 = .ok (.aload_n 0, 1) := by decide +kernel
theorem dX2_begin_97 : decode cX2_begin 97 = .ok (.invokevirtual 85, 3) := by decide +kernel
theorem dX2_begin_100 : decode cX2_begin 100 = .ok (.iload_n 2, 1) := by decide +kernel
theorem dX2_begin_101 : decode cX2_begin 101 = .ok (.ireturn, 1) := by decide +kernel
theorem dX2_wayOf_0 : decode cX2_wayOf 0 = .ok (.aload_n 0, 1) := by decide +kernel
theorem dX2_wayOf_1 : decode cX2_wayOf 1 = .ok (.getfield 58, 3) := by decide +kernel
theorem dX2_wayOf_4 : decode cX2_wayOf 4 = .ok (.aload_n 1, 1) := by decide +kernel
theorem dX2_wayOf_5 : decode cX2_wayOf 5 = .ok (.getfield 88, 3) := by decide +kernel
theorem dX2_wayOf_8 : decode cX2_wayOf 8 = .ok (.invokestatic 72, 3) := by decide +kernel
theorem dX2_wayOf_11 : decode cX2_wayOf 11 = .ok (.ifCond .ne 5, 3) := by decide +kernel
theorem dX2_wayOf_14 : decode cX2_wayOf 14 = .ok (.iconst (-1), 1) := by decide +kernel
theorem dX2_wayOf_15 : decode cX2_wayOf 15 = .ok (.ireturn, 1) := by decide +kernel
theorem dX2_wayOf_16 : decode cX2_wayOf 16 = .ok (.aload_n 0, 1) := by decide +kernel
theorem dX2_wayOf_17 : decode cX2_wayOf 17 = .ok (.getfield 32, 3) := by decide +kernel
theorem dX2_wayOf_20 : decode cX2_wayOf 20 = .ok (.aload_n 0, 1) := by decide +kernel
theorem dX2_wayOf_21 : decode cX2_wayOf 21 = .ok (.getfield 58, 3) := by decide +kernel
theorem dX2_wayOf_24 : decode cX2_wayOf 24 = .ok (.invokevirtual 91, 3) := by decide +kernel
theorem dX2_wayOf_27 : decode cX2_wayOf 27 = .ok (.aload_n 1, 1) := by decide +kernel
theorem dX2_wayOf_28 : decode cX2_wayOf 28 = .ok (.getfield 95, 3) := by decide +kernel
theorem dX2_wayOf_31 : decode cX2_wayOf 31 = .ok (.ireturn, 1) := by decide +kernel
theorem dX2_workerAt_0 : decode cX2_workerAt 0 = .ok (.iload_n 1, 1) := by decide +kernel
theorem dX2_workerAt_1 : decode cX2_workerAt 1 = .ok (.ifCond .lt 17, 3) := by decide +kernel
theorem dX2_workerAt_4 : decode cX2_workerAt 4 = .ok (.iload_n 1, 1) := by decide +kernel
theorem dX2_workerAt_5 : decode cX2_workerAt 5 = .ok (.iconst 4, 1) := by decide +kernel
theorem dX2_workerAt_6 : decode cX2_workerAt 6 = .ok (.if_icmp .ge 12, 3) := by decide +kernel
theorem dX2_workerAt_9 : decode cX2_workerAt 9 = .ok (.aload_n 0, 1) := by decide +kernel
theorem dX2_workerAt_10 : decode cX2_workerAt 10 = .ok (.getfield 20, 3) := by decide +kernel
theorem dX2_workerAt_13 : decode cX2_workerAt 13 = .ok (.iload_n 1, 1) := by decide +kernel
theorem dX2_workerAt_14 : decode cX2_workerAt 14 = .ok (.aaload, 1) := by decide +kernel
theorem dX2_workerAt_15 : decode cX2_workerAt 15 = .ok (.goto 7, 3) := by decide +kernel
theorem dX2_workerAt_18 : decode cX2_workerAt 18 = .ok (.aload_n 0, 1) := by decide +kernel
theorem dX2_workerAt_19 : decode cX2_workerAt 19 = .ok (.getfield 14, 3) := by decide +kernel
theorem dX2_workerAt_22 : decode cX2_workerAt 22 = .ok (.areturn, 1) := by decide +kernel
theorem dX2_changePower_0 : decode cX2_changePower 0 = .ok (.aload_n 1, 1) := by decide +kernel
theorem dX2_changePower_1 : decode cX2_changePower 1 = .ok (.getfield 98, 3) := by decide +kernel
theorem dX2_changePower_4 : decode cX2_changePower 4 = .ok (.astore_n 3, 1) := by decide +kernel
theorem dX2_changePower_5 : decode cX2_changePower 5 = .ok (.aload_n 1, 1) := by decide +kernel
theorem dX2_changePower_6 : decode cX2_changePower 6 = .ok (.iload_n 2, 1) := by decide +kernel
theorem dX2_changePower_7 : decode cX2_changePower 7 = .ok (.putfield 102, 3) := by decide +kernel
theorem dX2_changePower_10 : decode cX2_changePower 10 = .ok (.aload_n 1, 1) := by decide +kernel
theorem dX2_changePower_11 : decode cX2_changePower 11 = .ok (.iconst (-1), 1) := by decide +kernel
theorem dX2_changePower_12 : decode cX2_changePower 12 = .ok (.invokevirtual 105, 3) := by decide +kernel
theorem dX2_changePower_15 : decode cX2_changePower 15 = .ok (.aload_n 3, 1) := by decide +kernel
theorem dX2_changePower_16 : decode cX2_changePower 16 = .ok (.ifnull 21, 3) := by decide +kernel
theorem dX2_changePower_19 : decode cX2_changePower 19 = .ok (.aload_n 0, 1) := by decide +kernel
theorem dX2_changePower_20 : decode cX2_changePower 20 = .ok (.aload_n 3, 1) := by decide +kernel
theorem dX2_changePower_21 : decode cX2_changePower 21 = .ok (.invokevirtual 108, 3) := by decide +kernel
theorem dX2_changePower_24 : decode cX2_changePower 24 = .ok (.ifCond .ne 13, 3) := by decide +kernel
theorem dX2_changePower_27 : decode cX2_changePower 27 = .ok (.aload_n 3, 1) := by decide +kernel
theorem dX2_changePower_28 : decode cX2_changePower 28 = .ok (.iconst 1, 1) := by decide +kernel
theorem dX2_changePower_29 : decode cX2_changePower 29 = .ok (.putfield 112, 3) := by decide +kernel
theorem dX2_changePower_32 : decode cX2_changePower 32 = .ok (.aload_n 0, 1) := by decide +kernel
theorem dX2_changePower_33 : decode cX2_changePower 33 = .ok (.iconst 2, 1) := by decide +kernel
theorem dX2_changePower_34 : decode cX2_changePower 34 = .ok (.invokevirtual 117, 3) := by decide +kernel
theorem dX2_changePower_37 : decode cX2_changePower 37 = .ok (.return_, 1) := by decide +kernel
theorem dX2_isAnyAt_0 : decode cX2_isAnyAt 0 = .ok (.aload_n 0, 1) := by decide +kernel
theorem dX2_isAnyAt_1 : decode cX2_isAnyAt 1 = .ok (.getfield 20, 3) := by decide +kernel
theorem dX2_isAnyAt_4 : decode cX2_isAnyAt 4 = .ok (.astore_n 2, 1) := by decide +kernel
theorem dX2_isAnyAt_5 : decode cX2_isAnyAt 5 = .ok (.aload_n 2, 1) := by decide +kernel
theorem dX2_isAnyAt_6 : decode cX2_isAnyAt 6 = .ok (.arraylength, 1) := by decide +kernel
theorem dX2_isAnyAt_7 : decode cX2_isAnyAt 7 = .ok (.istore_n 3, 1) := by decide +kernel
theorem dX2_isAnyAt_8 : decode cX2_isAnyAt 8 = .ok (.iconst 0, 1) := by decide +kernel
theorem dX2_isAnyAt_9 : decode cX2_isAnyAt 9 = .ok (.istore 4, 2) := by decide +kernel
theorem dX2_isAnyAt_11 : decode cX2_isAnyAt 11 = .ok (.iload 4, 2) := by decide +kernel
theorem dX2_isAnyAt_13 : decode cX2_isAnyAt 13 = .ok (.iload_n 3, 1) := by decide +kernel
theorem dX2_isAnyAt_14 : decode cX2_isAnyAt 14 = .ok (.if_icmp .ge 26, 3) := by decide +kernel
theorem dX2_isAnyAt_17 : decode cX2_isAnyAt 17 = .ok (.aload_n 2, 1) := by decide +kernel
theorem dX2_isAnyAt_18 : decode cX2_isAnyAt 18 = .ok (.iload 4, 2) := by decide +kernel
theorem dX2_isAnyAt_20 : decode cX2_isAnyAt 20 = .ok (.aaload, 1) := by decide +kernel
theorem dX2_isAnyAt_21 : decode cX2_isAnyAt 21 = .ok (.astore 5, 2) := by decide +kernel
theorem dX2_isAnyAt_23 : decode cX2_isAnyAt 23 = .ok (.aload 5, 2) := by decide +kernel
theorem dX2_isAnyAt_25 : decode cX2_isAnyAt 25 = .ok (.getfield 98, 3) := by decide +kernel
theorem dX2_isAnyAt_28 : decode cX2_isAnyAt 28 = .ok (.aload_n 1, 1) := by decide +kernel
theorem dX2_isAnyAt_29 : decode cX2_isAnyAt 29 = .ok (.if_acmp .ne 5, 3) := by decide +kernel
theorem dX2_isAnyAt_32 : decode cX2_isAnyAt 32 = .ok (.iconst 1, 1) := by decide +kernel
theorem dX2_isAnyAt_33 : decode cX2_isAnyAt 33 = .ok (.ireturn, 1) := by decide +kernel
theorem dX2_isAnyAt_34 : decode cX2_isAnyAt 34 = .ok (.iinc 4 1, 3) := by decide +kernel
theorem dX2_isAnyAt_37 : decode cX2_isAnyAt 37 = .ok (.goto (-26), 3) := by decide +kernel
theorem dX2_isAnyAt_40 : decode cX2_isAnyAt 40 = .ok (.iconst 0, 1) := by decide +kernel
theorem dX2_isAnyAt_41 : decode cX2_isAnyAt 41 = .ok (.ireturn, 1) := by decide +kernel
theorem dX2_dismissFrom_0 : decode cX2_dismissFrom 0 = .ok (.aload_n 0, 1) := by decide +kernel
theorem dX2_dismissFrom_1 : decode cX2_dismissFrom 1 = .ok (.getfield 20, 3) := by decide +kernel
theorem dX2_dismissFrom_4 : decode cX2_dismissFrom 4 = .ok (.astore_n 2, 1) := by decide +kernel
theorem dX2_dismissFrom_5 : decode cX2_dismissFrom 5 = .ok (.aload_n 2, 1) := by decide +kernel
theorem dX2_dismissFrom_6 : decode cX2_dismissFrom 6 = .ok (.arraylength, 1) := by decide +kernel
theorem dX2_dismissFrom_7 : decode cX2_dismissFrom 7 = .ok (.istore_n 3, 1) := by decide +kernel
theorem dX2_dismissFrom_8 : decode cX2_dismissFrom 8 = .ok (.iconst 0, 1) := by decide +kernel
theorem dX2_dismissFrom_9 : decode cX2_dismissFrom 9 = .ok (.istore 4, 2) := by decide +kernel
theorem dX2_dismissFrom_11 : decode cX2_dismissFrom 11 = .ok (.iload 4, 2) := by decide +kernel
theorem dX2_dismissFrom_13 : decode cX2_dismissFrom 13 = .ok (.iload_n 3, 1) := by decide +kernel
theorem dX2_dismissFrom_14 : decode cX2_dismissFrom 14 = .ok (.if_icmp .ge 30, 3) := by decide +kernel
theorem dX2_dismissFrom_17 : decode cX2_dismissFrom 17 = .ok (.aload_n 2, 1) := by decide +kernel
theorem dX2_dismissFrom_18 : decode cX2_dismissFrom 18 = .ok (.iload 4, 2) := by decide +kernel
theorem dX2_dismissFrom_20 : decode cX2_dismissFrom 20 = .ok (.aaload, 1) := by decide +kernel
theorem dX2_dismissFrom_21 : decode cX2_dismissFrom 21 = .ok (.astore 5, 2) := by decide +kernel
theorem dX2_dismissFrom_23 : decode cX2_dismissFrom 23 = .ok (.aload 5, 2) := by decide +kernel
theorem dX2_dismissFrom_25 : decode cX2_dismissFrom 25 = .ok (.getfield 98, 3) := by decide +kernel
theorem dX2_dismissFrom_28 : decode cX2_dismissFrom 28 = .ok (.aload_n 1, 1) := by decide +kernel
theorem dX2_dismissFrom_29 : decode cX2_dismissFrom 29 = .ok (.if_acmp .ne 9, 3) := by decide +kernel
theorem dX2_dismissFrom_32 : decode cX2_dismissFrom 32 = .ok (.aload 5, 2) := by decide +kernel
theorem dX2_dismissFrom_34 : decode cX2_dismissFrom 34 = .ok (.iconst (-1), 1) := by decide +kernel
theorem dX2_dismissFrom_35 : decode cX2_dismissFrom 35 = .ok (.invokevirtual 105, 3) := by decide +kernel
theorem dX2_dismissFrom_38 : decode cX2_dismissFrom 38 = .ok (.iinc 4 1, 3) := by decide +kernel
theorem dX2_dismissFrom_41 : decode cX2_dismissFrom 41 = .ok (.goto (-30), 3) := by decide +kernel
theorem dX2_dismissFrom_44 : decode cX2_dismissFrom 44 = .ok (.return_, 1) := by decide +kernel
theorem dX2_strongestIdle_0 : decode cX2_strongestIdle 0 = .ok (.aconst_null, 1) := by decide +kernel
theorem dX2_strongestIdle_1 : decode cX2_strongestIdle 1 = .ok (.astore_n 1, 1) := by decide +kernel
theorem dX2_strongestIdle_2 : decode cX2_strongestIdle 2 = .ok (.aload_n 0, 1) := by decide +kernel
theorem dX2_strongestIdle_3 : decode cX2_strongestIdle 3 = .ok (.getfield 20, 3) := by decide +kernel
theorem dX2_strongestIdle_6 : decode cX2_strongestIdle 6 = .ok (.astore_n 2, 1) := by decide +kernel
theorem dX2_strongestIdle_7 : decode cX2_strongestIdle 7 = .ok (.aload_n 2, 1) := by decide +kernel
theorem dX2_strongestIdle_8 : decode cX2_strongestIdle 8 = .ok (.arraylength, 1) := by decide +kernel
theorem dX2_strongestIdle_9 : decode cX2_strongestIdle 9 = .ok (.istore_n 3, 1) := by decide +kernel
theorem dX2_strongestIdle_10 : decode cX2_strongestIdle 10 = .ok (.iconst 0, 1) := by decide +kernel
theorem dX2_strongestIdle_11 : decode cX2_strongestIdle 11 = .ok (.istore 4, 2) := by decide +kernel
theorem dX2_strongestIdle_13 : decode cX2_strongestIdle 13 = .ok (.iload 4, 2) := by decide +kernel
theorem dX2_strongestIdle_15 : decode cX2_strongestIdle 15 = .ok (.iload_n 3, 1) := by decide +kernel
theorem dX2_strongestIdle_16 : decode cX2_strongestIdle 16 = .ok (.if_icmp .ge 42, 3) := by decide +kernel
theorem dX2_strongestIdle_19 : decode cX2_strongestIdle 19 = .ok (.aload_n 2, 1) := by decide +kernel
theorem dX2_strongestIdle_20 : decode cX2_strongestIdle 20 = .ok (.iload 4, 2) := by decide +kernel
theorem dX2_strongestIdle_22 : decode cX2_strongestIdle 22 = .ok (.aaload, 1) := by decide +kernel
theorem dX2_strongestIdle_23 : decode cX2_strongestIdle 23 = .ok (.astore 5, 2) := by decide +kernel
theorem dX2_strongestIdle_25 : decode cX2_strongestIdle 25 = .ok (.aload 5, 2) := by decide +kernel
theorem dX2_strongestIdle_27 : decode cX2_strongestIdle 27 = .ok (.invokevirtual 120, 3) := by decide +kernel
theorem dX2_strongestIdle_30 : decode cX2_strongestIdle 30 = .ok (.ifCond .eq 22, 3) := by decide +kernel
theorem dX2_strongestIdle_33 : decode cX2_strongestIdle 33 = .ok (.aload_n 1, 1) := by decide +kernel
theorem dX2_strongestIdle_34 : decode cX2_strongestIdle 34 = .ok (.ifnull 15, 3) := by decide +kernel
theorem dX2_strongestIdle_37 : decode cX2_strongestIdle 37 = .ok (.aload 5, 2) := by decide +kernel
theorem dX2_strongestIdle_39 : decode cX2_strongestIdle 39 = .ok (.getfield 102, 3) := by decide +kernel
theorem dX2_strongestIdle_42 : decode cX2_strongestIdle 42 = .ok (.aload_n 1, 1) := by decide +kernel
theorem dX2_strongestIdle_43 : decode cX2_strongestIdle 43 = .ok (.getfield 102, 3) := by decide +kernel
theorem dX2_strongestIdle_46 : decode cX2_strongestIdle 46 = .ok (.if_icmp .le 6, 3) := by decide +kernel
theorem dX2_strongestIdle_49 : decode cX2_strongestIdle 49 = .ok (.aload 5, 2) := by decide +kernel
theorem dX2_strongestIdle_51 : decode cX2_strongestIdle 51 = .ok (.astore_n 1, 1) := by decide +kernel
theorem dX2_strongestIdle_52 : decode cX2_strongestIdle 52 = .ok (.iinc 4 1, 3) := by decide +kernel
theorem dX2_strongestIdle_55 : decode cX2_strongestIdle 55 = .ok (.goto (-42), 3) := by decide +kernel
theorem dX2_strongestIdle_58 : decode cX2_strongestIdle 58 = .ok (.aload_n 1, 1) := by decide +kernel
theorem dX2_strongestIdle_59 : decode cX2_strongestIdle 59 = .ok (.areturn, 1) := by decide +kernel
theorem dX2_longestBusy_0 : decode cX2_longestBusy 0 = .ok (.aconst_null, 1) := by decide +kernel
theorem dX2_longestBusy_1 : decode cX2_longestBusy 1 = .ok (.astore_n 1, 1) := by decide +kernel
theorem dX2_longestBusy_2 : decode cX2_longestBusy 2 = .ok (.aload_n 0, 1) := by decide +kernel
theorem dX2_longestBusy_3 : decode cX2_longestBusy 3 = .ok (.getfield 20, 3) := by decide +kernel
theorem dX2_longestBusy_6 : decode cX2_longestBusy 6 = .ok (.astore_n 2, 1) := by decide +kernel
theorem dX2_longestBusy_7 : decode cX2_longestBusy 7 = .ok (.aload_n 2, 1) := by decide +kernel
theorem dX2_longestBusy_8 : decode cX2_longestBusy 8 = .ok (.arraylength, 1) := by decide +kernel
theorem dX2_longestBusy_9 : decode cX2_longestBusy 9 = .ok (.istore_n 3, 1) := by decide +kernel
theorem dX2_longestBusy_10 : decode cX2_longestBusy 10 = .ok (.iconst 0, 1) := by decide +kernel
theorem dX2_longestBusy_11 : decode cX2_longestBusy 11 = .ok (.istore 4, 2) := by decide +kernel
theorem dX2_longestBusy_13 : decode cX2_longestBusy 13 = .ok (.iload 4, 2) := by decide +kernel
theorem dX2_longestBusy_15 : decode cX2_longestBusy 15 = .ok (.iload_n 3, 1) := by decide +kernel
theorem dX2_longestBusy_16 : decode cX2_longestBusy 16 = .ok (.if_icmp .ge 42, 3) := by decide +kernel
theorem dX2_longestBusy_19 : decode cX2_longestBusy 19 = .ok (.aload_n 2, 1) := by decide +kernel
theorem dX2_longestBusy_20 : decode cX2_longestBusy 20 = .ok (.iload 4, 2) := by decide +kernel
theorem dX2_longestBusy_22 : decode cX2_longestBusy 22 = .ok (.aaload, 1) := by decide +kernel
theorem dX2_longestBusy_23 : decode cX2_longestBusy 23 = .ok (.astore 5, 2) := by decide +kernel
theorem dX2_longestBusy_25 : decode cX2_longestBusy 25 = .ok (.aload 5, 2) := by decide +kernel
theorem dX2_longestBusy_27 : decode cX2_longestBusy 27 = .ok (.getfield 98, 3) := by decide +kernel
theorem dX2_longestBusy_30 : decode cX2_longestBusy 30 = .ok (.ifnull 22, 3) := by decide +kernel
theorem dX2_longestBusy_33 : decode cX2_longestBusy 33 = .ok (.aload_n 1, 1) := by decide +kernel
theorem dX2_longestBusy_34 : decode cX2_longestBusy 34 = .ok (.ifnull 15, 3) := by decide +kernel
theorem dX2_longestBusy_37 : decode cX2_longestBusy 37 = .ok (.aload 5, 2) := by decide +kernel
theorem dX2_longestBusy_39 : decode cX2_longestBusy 39 = .ok (.getfield 124, 3) := by decide +kernel
theorem dX2_longestBusy_42 : decode cX2_longestBusy 42 = .ok (.aload_n 1, 1) := by decide +kernel
theorem dX2_longestBusy_43 : decode cX2_longestBusy 43 = .ok (.getfield 124, 3) := by decide +kernel
theorem dX2_longestBusy_46 : decode cX2_longestBusy 46 = .ok (.if_icmp .le 6, 3) := by decide +kernel
theorem dX2_longestBusy_49 : decode cX2_longestBusy 49 = .ok (.aload 5, 2) := by decide +kernel
theorem dX2_longestBusy_51 : decode cX2_longestBusy 51 = .ok (.astore_n 1, 1) := by decide +kernel
theorem dX2_longestBusy_52 : decode cX2_longestBusy 52 = .ok (.iinc 4 1, 3) := by decide +kernel
theorem dX2_longestBusy_55 : decode cX2_longestBusy 55 = .ok (.goto (-42), 3) := by decide +kernel
theorem dX2_longestBusy_58 : decode cX2_longestBusy 58 = .ok (.aload_n 1, 1) := by decide +kernel
theorem dX2_longestBusy_59 : decode cX2_longestBusy 59 = .ok (.areturn, 1) := by decide +kernel
theorem dX2_passTick_0 : decode cX2_passTick 0 = .ok (.aload_n 0, 1) := by decide +kernel
theorem dX2_passTick_1 : decode cX2_passTick 1 = .ok (.invokevirtual 127, 3) := by decide +kernel
theorem dX2_passTick_4 : decode cX2_passTick 4 = .ok (.aload_n 0, 1) := by decide +kernel
theorem dX2_passTick_5 : decode cX2_passTick 5 = .ok (.getfield 130, 3) := by decide +kernel
theorem dX2_passTick_8 : decode cX2_passTick 8 = .ok (.ifCond .eq 7, 3) := by decide +kernel
theorem dX2_passTick_11 : decode cX2_passTick 11 = .ok (.aload_n 0, 1) := by decide +kernel
theorem dX2_passTick_12 : decode cX2_passTick 12 = .ok (.invokevirtual 133, 3) := by decide +kernel
theorem dX2_passTick_15 : decode cX2_passTick 15 = .ok (.aload_n 0, 1) := by decide +kernel
theorem dX2_passTick_16 : decode cX2_passTick 16 = .ok (.getfield 20, 3) := by decide +kernel
theorem dX2_passTick_19 : decode cX2_passTick 19 = .ok (.astore_n 1, 1) := by decide +kernel
theorem dX2_passTick_20 : decode cX2_passTick 20 = .ok (.aload_n 1, 1) := by decide +kernel
theorem dX2_passTick_21 : decode cX2_passTick 21 = .ok (.arraylength, 1) := by decide +kernel
theorem dX2_passTick_22 : decode cX2_passTick 22 = .ok (.istore_n 2, 1) := by decide +kernel
theorem dX2_passTick_23 : decode cX2_passTick 23 = .ok (.iconst 0, 1) := by decide +kernel
theorem dX2_passTick_24 : decode cX2_passTick 24 = .ok (.istore_n 3, 1) := by decide +kernel
theorem dX2_passTick_25 : decode cX2_passTick 25 = .ok (.iload_n 3, 1) := by decide +kernel
theorem dX2_passTick_26 : decode cX2_passTick 26 = .ok (.iload_n 2, 1) := by decide +kernel
theorem dX2_passTick_27 : decode cX2_passTick 27 = .ok (.if_icmp .ge 19, 3) := by decide +kernel
theorem dX2_passTick_30 : decode cX2_passTick 30 = .ok (.aload_n 1, 1) := by decide +kernel
theorem dX2_passTick_31 : decode cX2_passTick 31 = .ok (.iload_n 3, 1) := by decide +kernel
theorem dX2_passTick_32 : decode cX2_passTick 32 = .ok (.aaload, 1) := by decide +kernel
theorem dX2_passTick_33 : decode cX2_passTick 33 = .ok (.astore 4, 2) := by decide +kernel
theorem dX2_passTick_35 : decode cX2_passTick 35 = .ok (.aload 4, 2) := by decide +kernel
theorem dX2_passTick_37 : decode cX2_passTick 37 = .ok (.invokevirtual 136, 3) := by decide +kernel
theorem dX2_passTick_40 : decode cX2_passTick 40 = .ok (.iinc 3 1, 3) := by decide +kernel
theorem dX2_passTick_43 : decode cX2_passTick 43 = .ok (.goto (-18), 3) := by decide +kernel
theorem dX2_passTick_46 : decode cX2_passTick 46 = .ok (.iconst 0, 1) := by decide +kernel
theorem dX2_passTick_47 : decode cX2_passTick 47 = .ok (.istore_n 1, 1) := by decide +kernel
theorem dX2_passTick_48 : decode cX2_passTick 48 = .ok (.aload_n 0, 1) := by decide +kernel
theorem dX2_passTick_49 : decode cX2_passTick 49 = .ok (.getfield 20, 3) := by decide +kernel
theorem dX2_passTick_52 : decode cX2_passTick 52 = .ok (.astore_n 2, 1) := by decide +kernel
theorem dX2_passTick_53 : decode cX2_passTick 53 = .ok (.aload_n 2, 1) := by decide +kernel
theorem dX2_passTick_54 : decode cX2_passTick 54 = .ok (.arraylength, 1) := by decide +kernel
theorem dX2_passTick_55 : decode cX2_passTick 55 = .ok (.istore_n 3, 1) := by decide +kernel
theorem dX2_passTick_56 : decode cX2_passTick 56 = .ok (.iconst 0, 1) := by decide +kernel
theorem dX2_passTick_57 : decode cX2_passTick 57 = .ok (.istore 4, 2) := by decide +kernel
theorem dX2_passTick_59 : decode cX2_passTick 59 = .ok (.iload 4, 2) := by decide +kernel
theorem dX2_passTick_61 : decode cX2_passTick 61 = .ok (.iload_n 3, 1) := by decide +kernel
theorem dX2_passTick_62 : decode cX2_passTick 62 = .ok (.if_icmp .ge 31, 3) := by decide +kernel
theorem dX2_passTick_65 : decode cX2_passTick 65 = .ok (.aload_n 2, 1) := by decide +kernel
theorem dX2_passTick_66 : decode cX2_passTick 66 = .ok (.iload 4, 2) := by decide +kernel
theorem dX2_passTick_68 : decode cX2_passTick 68 = .ok (.aaload, 1) := by decide +kernel
theorem dX2_passTick_69 : decode cX2_passTick 69 = .ok (.astore 5, 2) := by decide +kernel
theorem dX2_passTick_71 : decode cX2_passTick 71 = .ok (.aload 5, 2) := by decide +kernel
theorem dX2_passTick_73 : decode cX2_passTick 73 = .ok (.invokevirtual 139, 3) := by decide +kernel
theorem dX2_passTick_76 : decode cX2_passTick 76 = .ok (.ifCond .eq 11, 3) := by decide +kernel
theorem dX2_passTick_79 : decode cX2_passTick 79 = .ok (.aload_n 0, 1) := by decide +kernel
theorem dX2_passTick_80 : decode cX2_passTick 80 = .ok (.aload 5, 2) := by decide +kernel
theorem dX2_passTick_82 : decode cX2_passTick 82 = .ok (.invokevirtual 142, 3) := by decide +kernel
theorem dX2_passTick_85 : decode cX2_passTick 85 = .ok (.iconst 1, 1) := by decide +kernel
theorem dX2_passTick_86 : decode cX2_passTick 86 = .ok (.istore_n 1, 1) := by decide +kernel
theorem dX2_passTick_87 : decode cX2_passTick 87 = .ok (.iinc 4 1, 3) := by decide +kernel
theorem dX2_passTick_90 : decode cX2_passTick 90 = .ok (.goto (-31), 3) := by decide +kernel
theorem dX2_passTick_93 : decode cX2_passTick 93 = .ok (.iload_n 1, 1) := by decide +kernel
theorem dX2_passTick_94 : decode cX2_passTick 94 = .ok (.ifCond .eq 7, 3) := by decide +kernel
theorem dX2_passTick_97 : decode cX2_passTick 97 = .ok (.aload_n 0, 1) := by decide +kernel
theorem dX2_passTick_98 : decode cX2_passTick 98 = .ok (.invokevirtual 85, 3) := by decide +kernel
theorem dX2_passTick_101 : decode cX2_passTick 101 = .ok (.return_, 1) := by decide +kernel
theorem dX2_beginReady_0 : decode cX2_beginReady 0 = .ok (.aload_n 0, 1) := by decide +kernel
theorem dX2_beginReady_1 : decode cX2_beginReady 1 = .ok (.getfield 32, 3) := by decide +kernel
theorem dX2_beginReady_4 : decode cX2_beginReady 4 = .ok (.aload_n 0, 1) := by decide +kernel
theorem dX2_beginReady_5 : decode cX2_beginReady 5 = .ok (.getfield 58, 3) := by decide +kernel
theorem dX2_beginReady_8 : decode cX2_beginReady 8 = .ok (.invokevirtual 91, 3) := by decide +kernel
theorem dX2_beginReady_11 : decode cX2_beginReady 11 = .ok (.iconst 0, 1) := by decide +kernel
theorem dX2_beginReady_12 : decode cX2_beginReady 12 = .ok (.istore_n 1, 1) := by decide +kernel
theorem dX2_beginReady_13 : decode cX2_beginReady 13 = .ok (.iload_n 1, 1) := by decide +kernel
theorem dX2_beginReady_14 : decode cX2_beginReady 14 = .ok (.iconst 4, 1) := by decide +kernel
theorem dX2_beginReady_15 : decode cX2_beginReady 15 = .ok (.if_icmp .ge 57, 3) := by decide +kernel
theorem dX2_beginReady_18 : decode cX2_beginReady 18 = .ok (.aload_n 0, 1) := by decide +kernel
theorem dX2_beginReady_19 : decode cX2_beginReady 19 = .ok (.invokevirtual 146, 3) := by decide +kernel
theorem dX2_beginReady_22 : decode cX2_beginReady 22 = .ok (.astore_n 2, 1) := by decide +kernel
theorem dX2_beginReady_23 : decode cX2_beginReady 23 = .ok (.aload_n 2, 1) := by decide +kernel
theorem dX2_beginReady_24 : decode cX2_beginReady 24 = .ok (.ifnonnull 7, 3) := by decide +kernel
theorem dX2_beginReady_27 : decode cX2_beginReady 27 = .ok (.aconst_null, 1) := by decide +kernel
theorem dX2_beginReady_28 : decode cX2_beginReady 28 = .ok (.goto 7, 3) := by decide +kernel
theorem dX2_beginReady_31 : decode cX2_beginReady 31 = .ok (.aload_n 0, 1) := by decide +kernel
theorem dX2_beginReady_32 : decode cX2_beginReady 32 = .ok (.invokevirtual 150, 3) := by decide +kernel
theorem dX2_beginReady_35 : decode cX2_beginReady 35 = .ok (.astore_n 3, 1) := by decide +kernel
theorem dX2_beginReady_36 : decode cX2_beginReady 36 = .ok (.aload_n 2, 1) := by decide +kernel
theorem dX2_beginReady_37 : decode cX2_beginReady 37 = .ok (.ifnull 7, 3) := by decide +kernel
theorem dX2_beginReady_40 : decode cX2_beginReady 40 = .ok (.aload_n 3, 1) := by decide +kernel
theorem dX2_beginReady_41 : decode cX2_beginReady 41 = .ok (.ifnonnull 4, 3) := by decide +kernel
theorem dX2_beginReady_44 : decode cX2_beginReady 44 = .ok (.return_, 1) := by decide +kernel
theorem dX2_beginReady_45 : decode cX2_beginReady 45 = .ok (.aload_n 3, 1) := by decide +kernel
theorem dX2_beginReady_46 : decode cX2_beginReady 46 = .ok (.iconst 2, 1) := by decide +kernel
theorem dX2_beginReady_47 : decode cX2_beginReady 47 = .ok (.putfield 112, 3) := by decide +kernel
theorem dX2_beginReady_50 : decode cX2_beginReady 50 = .ok (.aload_n 3, 1) := by decide +kernel
theorem dX2_beginReady_51 : decode cX2_beginReady 51 = .ok (.dup, 1) := by decide +kernel
theorem dX2_beginReady_52 : decode cX2_beginReady 52 = .ok (.getfield 154, 3) := by decide +kernel
theorem dX2_beginReady_55 : decode cX2_beginReady 55 = .ok (.iconst 1, 1) := by decide +kernel
theorem dX2_beginReady_56 : decode cX2_beginReady 56 = .ok (.iadd, 1) := by decide +kernel
theorem dX2_beginReady_57 : decode cX2_beginReady 57 = .ok (.putfield 154, 3) := by decide +kernel
theorem dX2_beginReady_60 : decode cX2_beginReady 60 = .ok (.aload_n 0, 1) := by decide +kernel
theorem dX2_beginReady_61 : decode cX2_beginReady 61 = .ok (.aload_n 2, 1) := by decide +kernel
theorem dX2_beginReady_62 : decode cX2_beginReady 62 = .ok (.aload_n 3, 1) := by decide +kernel
theorem dX2_beginReady_63 : decode cX2_beginReady 63 = .ok (.invokevirtual 157, 3) := by decide +kernel
theorem dX2_beginReady_66 : decode cX2_beginReady 66 = .ok (.iinc 1 1, 3) := by decide +kernel
theorem dX2_beginReady_69 : decode cX2_beginReady 69 = .ok (.goto (-56), 3) := by decide +kernel
theorem dX2_beginReady_72 : decode cX2_beginReady 72 = .ok (.return_, 1) := by decide +kernel
theorem dX2_longestReady_0 : decode cX2_longestReady 0 = .ok (.aconst_null, 1) := by decide +kernel
theorem dX2_longestReady_1 : decode cX2_longestReady 1 = .ok (.astore_n 1, 1) := by decide +kernel
theorem dX2_longestReady_2 : decode cX2_longestReady 2 = .ok (.iconst 0, 1) := by decide +kernel
theorem dX2_longestReady_3 : decode cX2_longestReady 3 = .ok (.istore_n 2, 1) := by decide +kernel
theorem dX2_longestReady_4 : decode cX2_longestReady 4 = .ok (.iconst 0, 1) := by decide +kernel
theorem dX2_longestReady_5 : decode cX2_longestReady 5 = .ok (.istore_n 3, 1) := by decide +kernel
theorem dX2_longestReady_6 : decode cX2_longestReady 6 = .ok (.iload_n 3, 1) := by decide +kernel
theorem dX2_longestReady_7 : decode cX2_longestReady 7 = .ok (.aload_n 0, 1) := by decide +kernel
theorem dX2_longestReady_8 : decode cX2_longestReady 8 = .ok (.getfield 32, 3) := by decide +kernel
theorem dX2_longestReady_11 : decode cX2_longestReady 11 = .ok (.getfield 65, 3) := by decide +kernel
theorem dX2_longestReady_14 : decode cX2_longestReady 14 = .ok (.if_icmp .ge 49, 3) := by decide +kernel
theorem dX2_longestReady_17 : decode cX2_longestReady 17 = .ok (.aload_n 0, 1) := by decide +kernel
theorem dX2_longestReady_18 : decode cX2_longestReady 18 = .ok (.getfield 32, 3) := by decide +kernel
theorem dX2_longestReady_21 : decode cX2_longestReady 21 = .ok (.iload_n 3, 1) := by decide +kernel
theorem dX2_longestReady_22 : decode cX2_longestReady 22 = .ok (.invokevirtual 68, 3) := by decide +kernel
theorem dX2_longestReady_25 : decode cX2_longestReady 25 = .ok (.astore 4, 2) := by decide +kernel
theorem dX2_longestReady_27 : decode cX2_longestReady 27 = .ok (.aload 4, 2) := by decide +kernel
theorem dX2_longestReady_29 : decode cX2_longestReady 29 = .ok (.invokevirtual 161, 3) := by decide +kernel
theorem dX2_longestReady_32 : decode cX2_longestReady 32 = .ok (.astore 5, 2) := by decide +kernel
theorem dX2_longestReady_34 : decode cX2_longestReady 34 = .ok (.aload 5, 2) := by decide +kernel
theorem dX2_longestReady_36 : decode cX2_longestReady 36 = .ok (.ifnull 21, 3) := by decide +kernel
theorem dX2_longestReady_39 : decode cX2_longestReady 39 = .ok (.aload 4, 2) := by decide +kernel
theorem dX2_longestReady_41 : decode cX2_longestReady 41 = .ok (.getfield 95, 3) := by decide +kernel
theorem dX2_longestReady_44 : decode cX2_longestReady 44 = .ok (.iload_n 2, 1) := by decide +kernel
theorem dX2_longestReady_45 : decode cX2_longestReady 45 = .ok (.if_icmp .le 12, 3) := by decide +kernel
theorem dX2_longestReady_48 : decode cX2_longestReady 48 = .ok (.aload 5, 2) := by decide +kernel
theorem dX2_longestReady_50 : decode cX2_longestReady 50 = .ok (.astore_n 1, 1) := by decide +kernel
theorem dX2_longestReady_51 : decode cX2_longestReady 51 = .ok (.aload 4, 2) := by decide +kernel
theorem dX2_longestReady_53 : decode cX2_longestReady 53 = .ok (.getfield 95, 3) := by decide +kernel
theorem dX2_longestReady_56 : decode cX2_longestReady 56 = .ok (.istore_n 2, 1) := by decide +kernel
theorem dX2_longestReady_57 : decode cX2_longestReady 57 = .ok (.iinc 3 1, 3) := by decide +kernel
theorem dX2_longestReady_60 : decode cX2_longestReady 60 = .ok (.goto (-54), 3) := by decide +kernel
theorem dX2_longestReady_63 : decode cX2_longestReady 63 = .ok (.aload_n 1, 1) := by decide +kernel
theorem dX2_longestReady_64 : decode cX2_longestReady 64 = .ok (.areturn, 1) := by decide +kernel
theorem dX2_start_0 : decode cX2_start 0 = .ok (.aload_n 0, 1) := by decide +kernel
theorem dX2_start_1 : decode cX2_start 1 = .ok (.getfield 32, 3) := by decide +kernel
theorem dX2_start_4 : decode cX2_start 4 = .ok (.aload_n 2, 1) := by decide +kernel
theorem dX2_start_5 : decode cX2_start 5 = .ok (.getfield 164, 3) := by decide +kernel
theorem dX2_start_8 : decode cX2_start 8 = .ok (.invokevirtual 68, 3) := by decide +kernel
theorem dX2_start_11 : decode cX2_start 11 = .ok (.astore_n 3, 1) := by decide +kernel
theorem dX2_start_12 : decode cX2_start 12 = .ok (.aload_n 0, 1) := by decide +kernel
theorem dX2_start_13 : decode cX2_start 13 = .ok (.getfield 40, 3) := by decide +kernel
theorem dX2_start_16 : decode cX2_start 16 = .ok (.aload_n 3, 1) := by decide +kernel
theorem dX2_start_17 : decode cX2_start 17 = .ok (.aload_n 2, 1) := by decide +kernel
theorem dX2_start_18 : decode cX2_start 18 = .ok (.getfield 167, 3) := by decide +kernel
theorem dX2_start_21 : decode cX2_start 21 = .ok (.invokevirtual 170, 3) := by decide +kernel
theorem dX2_start_24 : decode cX2_start 24 = .ok (.istore 4, 2) := by decide +kernel
theorem dX2_start_26 : decode cX2_start 26 = .ok (.aload_n 1, 1) := by decide +kernel
theorem dX2_start_27 : decode cX2_start 27 = .ok (.aload_n 2, 1) := by decide +kernel
theorem dX2_start_28 : decode cX2_start 28 = .ok (.aload_n 3, 1) := by decide +kernel
theorem dX2_start_29 : decode cX2_start 29 = .ok (.iload 4, 2) := by decide +kernel
theorem dX2_start_31 : decode cX2_start 31 = .ok (.aload_n 0, 1) := by decide +kernel
theorem dX2_start_32 : decode cX2_start 32 = .ok (.getfield 40, 3) := by decide +kernel
theorem dX2_start_35 : decode cX2_start 35 = .ok (.aload_n 3, 1) := by decide +kernel
theorem dX2_start_36 : decode cX2_start 36 = .ok (.iload 4, 2) := by decide +kernel
theorem dX2_start_38 : decode cX2_start 38 = .ok (.invokevirtual 176, 3) := by decide +kernel
theorem dX2_start_41 : decode cX2_start 41 = .ok (.invokevirtual 179, 3) := by decide +kernel
theorem dX2_start_44 : decode cX2_start 44 = .ok (.aload_n 0, 1) := by decide +kernel
theorem dX2_start_45 : decode cX2_start 45 = .ok (.iconst 0, 1) := by decide +kernel
theorem dX2_start_46 : decode cX2_start 46 = .ok (.invokevirtual 117, 3) := by decide +kernel
theorem dX2_start_49 : decode cX2_start 49 = .ok (.return_, 1) := by decide +kernel
theorem dX2_speculate_0 : decode cX2_speculate 0 = .ok (.aload_n 0, 1) := by decide +kernel
theorem dX2_speculate_1 : decode cX2_speculate 1 = .ok (.invokevirtual 182, 3) := by decide +kernel
theorem dX2_speculate_4 : decode cX2_speculate 4 = .ok (.astore_n 1, 1) := by decide +kernel
theorem dX2_speculate_5 : decode cX2_speculate 5 = .ok (.aload_n 0, 1) := by decide +kernel
theorem dX2_speculate_6 : decode cX2_speculate 6 = .ok (.getfield 14, 3) := by decide +kernel
theorem dX2_speculate_9 : decode cX2_speculate 9 = .ok (.invokevirtual 120, 3) := by decide +kernel
theorem dX2_speculate_12 : decode cX2_speculate 12 = .ok (.ifCond .eq 26, 3) := by decide +kernel
theorem dX2_speculate_15 : decode cX2_speculate 15 = .ok (.aload_n 1, 1) := by decide +kernel
theorem dX2_speculate_16 : decode cX2_speculate 16 = .ok (.ifnull 22, 3) := by decide +kernel
theorem dX2_speculate_19 : decode cX2_speculate 19 = .ok (.aload_n 1, 1) := by decide +kernel
theorem dX2_speculate_20 : decode cX2_speculate 20 = .ok (.getfield 98, 3) := by decide +kernel
theorem dX2_speculate_23 : decode cX2_speculate 23 = .ok (.ifnull 15, 3) := by decide +kernel
theorem dX2_speculate_26 : decode cX2_speculate 26 = .ok (.aload_n 0, 1) := by decide +kernel
theorem dX2_speculate_27 : decode cX2_speculate 27 = .ok (.aload_n 0, 1) := by decide +kernel
theorem dX2_speculate_28 : decode cX2_speculate 28 = .ok (.getfield 14, 3) := by decide +kernel
theorem dX2_speculate_31 : decode cX2_speculate 31 = .ok (.aload_n 1, 1) := by decide +kernel
theorem dX2_speculate_32 : decode cX2_speculate 32 = .ok (.getfield 98, 3) := by decide +kernel
theorem dX2_speculate_35 : decode cX2_speculate 35 = .ok (.invokevirtual 157, 3) := by decide +kernel
theorem dX2_speculate_38 : decode cX2_speculate 38 = .ok (.return_, 1) := by decide +kernel
theorem dX2_end_0 : decode cX2_end 0 = .ok (.aload_n 1, 1) := by decide +kernel
theorem dX2_end_1 : decode cX2_end 1 = .ok (.getfield 98, 3) := by decide +kernel
theorem dX2_end_4 : decode cX2_end 4 = .ok (.astore_n 2, 1) := by decide +kernel
theorem dX2_end_5 : decode cX2_end 5 = .ok (.aload_n 2, 1) := by decide +kernel
theorem dX2_end_6 : decode cX2_end 6 = .ok (.ifnonnull 4, 3) := by decide +kernel
theorem dX2_end_9 : decode cX2_end 9 = .ok (.return_, 1) := by decide +kernel
theorem dX2_end_10 : decode cX2_end 10 = .ok (.aload_n 0, 1) := by decide +kernel
theorem dX2_end_11 : decode cX2_end 11 = .ok (.getfield 32, 3) := by decide +kernel
theorem dX2_end_14 : decode cX2_end 14 = .ok (.aload_n 2, 1) := by decide +kernel
theorem dX2_end_15 : decode cX2_end 15 = .ok (.getfield 164, 3) := by decide +kernel
theorem dX2_end_18 : decode cX2_end 18 = .ok (.invokevirtual 68, 3) := by decide +kernel
theorem dX2_end_21 : decode cX2_end 21 = .ok (.astore_n 3, 1) := by decide +kernel
theorem dX2_end_22 : decode cX2_end 22 = .ok (.aload_n 0, 1) := by decide +kernel
theorem dX2_end_23 : decode cX2_end 23 = .ok (.aload_n 2, 1) := by decide +kernel
theorem dX2_end_24 : decode cX2_end 24 = .ok (.invokevirtual 185, 3) := by decide +kernel
theorem dX2_end_27 : decode cX2_end 27 = .ok (.aload_n 1, 1) := by decide +kernel
theorem dX2_end_28 : decode cX2_end 28 = .ok (.aload_n 3, 1) := by decide +kernel
theorem dX2_end_29 : decode cX2_end 29 = .ok (.getfield 189, 3) := by decide +kernel
theorem dX2_end_32 : decode cX2_end 32 = .ok (.invokevirtual 105, 3) := by decide +kernel
theorem dX2_end_35 : decode cX2_end 35 = .ok (.aload_n 0, 1) := by decide +kernel
theorem dX2_end_36 : decode cX2_end 36 = .ok (.getfield 40, 3) := by decide +kernel
theorem dX2_end_39 : decode cX2_end 39 = .ok (.aload_n 3, 1) := by decide +kernel
theorem dX2_end_40 : decode cX2_end 40 = .ok (.aload_n 2, 1) := by decide +kernel
theorem dX2_end_41 : decode cX2_end 41 = .ok (.getfield 167, 3) := by decide +kernel
theorem dX2_end_44 : decode cX2_end 44 = .ok (.invokevirtual 170, 3) := by decide +kernel
theorem dX2_end_47 : decode cX2_end 47 = .ok (.istore 4, 2) := by decide +kernel
theorem dX2_end_49 : decode cX2_end 49 = .ok (.aload_n 1, 1) := by decide +kernel
theorem dX2_end_50 : decode cX2_end 50 = .ok (.iload 4, 2) := by decide +kernel
theorem dX2_end_52 : decode cX2_end 52 = .ok (.aload_n 0, 1) := by decide +kernel
theorem dX2_end_53 : decode cX2_end 53 = .ok (.getfield 40, 3) := by decide +kernel
theorem dX2_end_56 : decode cX2_end 56 = .ok (.aload_n 3, 1) := by decide +kernel
theorem dX2_end_57 : decode cX2_end 57 = .ok (.iload 4, 2) := by decide +kernel
theorem dX2_end_59 : decode cX2_end 59 = .ok (.invokevirtual 176, 3) := by decide +kernel
theorem dX2_end_62 : decode cX2_end 62 = .ok (.invokevirtual 192, 3) := by decide +kernel
theorem dX2_end_65 : decode cX2_end 65 = .ok (.ifCond .ne 15, 3) := by decide +kernel
theorem dX2_end_68 : decode cX2_end 68 = .ok (.aload_n 0, 1) := by decide +kernel
theorem dX2_end_69 : decode cX2_end 69 = .ok (.iconst 2, 1) := by decide +kernel
theorem dX2_end_70 : decode cX2_end 70 = .ok (.invokevirtual 117, 3) := by decide +kernel
theorem dX2_end_73 : decode cX2_end 73 = .ok (.aload_n 2, 1) := by decide +kernel
theorem dX2_end_74 : decode cX2_end 74 = .ok (.invokevirtual 196, 3) := by decide +kernel
theorem dX2_end_77 : decode cX2_end 77 = .ok (.goto 27, 3) := by decide +kernel
theorem dX2_end_80 : decode cX2_end 80 = .ok (.aload_n 3, 1) := by decide +kernel
theorem dX2_end_81 : decode cX2_end 81 = .ok (.iload 4, 2) := by decide +kernel
theorem dX2_end_83 : decode cX2_end 83 = .ok (.invokevirtual 199, 3) := by decide +kernel
theorem dX2_end_86 : decode cX2_end 86 = .ok (.ifCond .eq 11, 3) := by decide +kernel
theorem dX2_end_89 : decode cX2_end 89 = .ok (.aload_n 2, 1) := by decide +kernel
theorem dX2_end_90 : decode cX2_end 90 = .ok (.iconst 4, 1) := by decide +kernel
theorem dX2_end_91 : decode cX2_end 91 = .ok (.putfield 112, 3) := by decide +kernel
theorem dX2_end_94 : decode cX2_end 94 = .ok (.goto 10, 3) := by decide +kernel
theorem dX2_end_97 : decode cX2_end 97 = .ok (.aload_n 0, 1) := by decide +kernel
theorem dX2_end_98 : decode cX2_end 98 = .ok (.aload_n 3, 1) := by decide +kernel
theorem dX2_end_99 : decode cX2_end 99 = .ok (.aload_n 2, 1) := by decide +kernel
theorem dX2_end_100 : decode cX2_end 100 = .ok (.aload_n 1, 1) := by decide +kernel
theorem dX2_end_101 : decode cX2_end 101 = .ok (.invokevirtual 203, 3) := by decide +kernel
theorem dX2_end_104 : decode cX2_end 104 = .ok (.return_, 1) := by decide +kernel
theorem dX2_judge_0 : decode cX2_judge 0 = .ok (.aload_n 3, 1) := by decide +kernel
theorem dX2_judge_1 : decode cX2_judge 1 = .ok (.invokevirtual 207, 3) := by decide +kernel
theorem dX2_judge_4 : decode cX2_judge 4 = .ok (.istore 4, 2) := by decide +kernel
theorem dX2_judge_6 : decode cX2_judge 6 = .ok (.aload_n 1, 1) := by decide +kernel
theorem dX2_judge_7 : decode cX2_judge 7 = .ok (.aload_n 2, 1) := by decide +kernel
theorem dX2_judge_8 : decode cX2_judge 8 = .ok (.getfield 154, 3) := by decide +kernel
theorem dX2_judge_11 : decode cX2_judge 11 = .ok (.iload 4, 2) := by decide +kernel
theorem dX2_judge_13 : decode cX2_judge 13 = .ok (.invokevirtual 211, 3) := by decide +kernel
theorem dX2_judge_16 : decode cX2_judge 16 = .ok (.istore 5, 2) := by decide +kernel
theorem dX2_judge_18 : decode cX2_judge 18 = .ok (.iload 5, 2) := by decide +kernel
theorem dX2_judge_20 : decode cX2_judge 20 = .ok (.ifCond .eq 18, 3) := by decide +kernel
theorem dX2_judge_23 : decode cX2_judge 23 = .ok (.aload_n 0, 1) := by decide +kernel
theorem dX2_judge_24 : decode cX2_judge 24 = .ok (.iconst 3, 1) := by decide +kernel
theorem dX2_judge_25 : decode cX2_judge 25 = .ok (.invokevirtual 117, 3) := by decide +kernel
theorem dX2_judge_28 : decode cX2_judge 28 = .ok (.aload_n 2, 1) := by decide +kernel
theorem dX2_judge_29 : decode cX2_judge 29 = .ok (.dup, 1) := by decide +kernel
theorem dX2_judge_30 : decode cX2_judge 30 = .ok (.getfield 214, 3) := by decide +kernel
theorem dX2_judge_33 : decode cX2_judge 33 = .ok (.iconst 1, 1) := by decide +kernel
theorem dX2_judge_34 : decode cX2_judge 34 = .ok (.iadd, 1) := by decide +kernel
theorem dX2_judge_35 : decode cX2_judge 35 = .ok (.putfield 214, 3) := by decide +kernel
theorem dX2_judge_38 : decode cX2_judge 38 = .ok (.iload 5, 2) := by decide +kernel
theorem dX2_judge_40 : decode cX2_judge 40 = .ok (.ifCond .eq 19, 3) := by decide +kernel
theorem dX2_judge_43 : decode cX2_judge 43 = .ok (.aload_n 2, 1) := by decide +kernel
theorem dX2_judge_44 : decode cX2_judge 44 = .ok (.getfield 214, 3) := by decide +kernel
theorem dX2_judge_47 : decode cX2_judge 47 = .ok (.iconst 3, 1) := by decide +kernel
theorem dX2_judge_48 : decode cX2_judge 48 = .ok (.if_icmp .ge 11, 3) := by decide +kernel
theorem dX2_judge_51 : decode cX2_judge 51 = .ok (.aload_n 2, 1) := by decide +kernel
theorem dX2_judge_52 : decode cX2_judge 52 = .ok (.iconst 1, 1) := by decide +kernel
theorem dX2_judge_53 : decode cX2_judge 53 = .ok (.putfield 112, 3) := by decide +kernel
theorem dX2_judge_56 : decode cX2_judge 56 = .ok (.goto 43, 3) := by decide +kernel
theorem dX2_judge_59 : decode cX2_judge 59 = .ok (.iload 5, 2) := by decide +kernel
theorem dX2_judge_61 : decode cX2_judge 61 = .ok (.ifCond .eq 18, 3) := by decide +kernel
theorem dX2_judge_64 : decode cX2_judge 64 = .ok (.aload_n 1, 1) := by decide +kernel
theorem dX2_judge_65 : decode cX2_judge 65 = .ok (.invokevirtual 217, 3) := by decide +kernel
theorem dX2_judge_68 : decode cX2_judge 68 = .ok (.ifCond .ne 11, 3) := by decide +kernel
theorem dX2_judge_71 : decode cX2_judge 71 = .ok (.aload_n 2, 1) := by decide +kernel
theorem dX2_judge_72 : decode cX2_judge 72 = .ok (.iconst 4, 1) := by decide +kernel
theorem dX2_judge_73 : decode cX2_judge 73 = .ok (.putfield 112, 3) := by decide +kernel
theorem dX2_judge_76 : decode cX2_judge 76 = .ok (.goto 23, 3) := by decide +kernel
theorem dX2_judge_79 : decode cX2_judge 79 = .ok (.aload_n 1, 1) := by decide +kernel
theorem dX2_judge_80 : decode cX2_judge 80 = .ok (.aload_n 3, 1) := by decide +kernel
theorem dX2_judge_81 : decode cX2_judge 81 = .ok (.getfield 220, 3) := by decide +kernel
theorem dX2_judge_84 : decode cX2_judge 84 = .ok (.putfield 223, 3) := by decide +kernel
theorem dX2_judge_87 : decode cX2_judge 87 = .ok (.aload_n 0, 1) := by decide +kernel
theorem dX2_judge_88 : decode cX2_judge 88 = .ok (.aload_n 1, 1) := by decide +kernel
theorem dX2_judge_89 : decode cX2_judge 89 = .ok (.aload_n 2, 1) := by decide +kernel
theorem dX2_judge_90 : decode cX2_judge 90 = .ok (.iload 4, 2) := by decide +kernel
theorem dX2_judge_92 : decode cX2_judge 92 = .ok (.aload_n 3, 1) := by decide +kernel
theorem dX2_judge_93 : decode cX2_judge 93 = .ok (.getfield 224, 3) := by decide +kernel
theorem dX2_judge_96 : decode cX2_judge 96 = .ok (.invokevirtual 225, 3) := by decide +kernel
theorem dX2_judge_99 : decode cX2_judge 99 = .ok (.aload_n 2, 1) := by decide +kernel
theorem dX2_judge_100 : decode cX2_judge 100 = .ok (.getfield 112, 3) := by decide +kernel
theorem dX2_judge_103 : decode cX2_judge 103 = .ok (.iconst 3, 1) := by decide +kernel
theorem dX2_judge_104 : decode cX2_judge 104 = .ok (.if_icmp .ne 26, 3) := by decide +kernel
theorem dX2_judge_107 : decode cX2_judge 107 = .ok (.aload_n 2, 1) := by decide +kernel
theorem dX2_judge_108 : decode cX2_judge 108 = .ok (.getfield 229, 3) := by decide +kernel
theorem dX2_judge_111 : decode cX2_judge 111 = .ok (.ifCond .eq 19, 3) := by decide +kernel
theorem dX2_judge_114 : decode cX2_judge 114 = .ok (.aload_n 0, 1) := by decide +kernel
theorem dX2_judge_115 : decode cX2_judge 115 = .ok (.iconst 4, 1) := by decide +kernel
theorem dX2_judge_116 : decode cX2_judge 116 = .ok (.invokevirtual 117, 3) := by decide +kernel
theorem dX2_judge_119 : decode cX2_judge 119 = .ok (.aload_n 1, 1) := by decide +kernel
theorem dX2_judge_120 : decode cX2_judge 120 = .ok (.aload_n 0, 1) := by decide +kernel
theorem dX2_judge_121 : decode cX2_judge 121 = .ok (.getfield 62, 3) := by decide +kernel
theorem dX2_judge_124 : decode cX2_judge 124 = .ok (.invokevirtual 232, 3) := by decide +kernel
theorem dX2_judge_127 : decode cX2_judge 127 = .ok (.goto 44, 3) := by decide +kernel
theorem dX2_judge_130 : decode cX2_judge 130 = .ok (.aload_n 2, 1) := by decide +kernel
theorem dX2_judge_131 : decode cX2_judge 131 = .ok (.getfield 112, 3) := by decide +kernel
theorem dX2_judge_134 : decode cX2_judge 134 = .ok (.iconst 3, 1) := by decide +kernel
theorem dX2_judge_135 : decode cX2_judge 135 = .ok (.if_icmp .ne 36, 3) := by decide +kernel
theorem dX2_judge_138 : decode cX2_judge 138 = .ok (.aload_n 1, 1) := by decide +kernel
theorem dX2_judge_139 : decode cX2_judge 139 = .ok (.aload_n 3, 1) := by decide +kernel
theorem dX2_judge_140 : decode cX2_judge 140 = .ok (.getfield 235, 3) := by decide +kernel
theorem dX2_judge_143 : decode cX2_judge 143 = .ok (.invokevirtual 238, 3) := by decide +kernel
theorem dX2_judge_146 : decode cX2_judge 146 = .ok (.istore 6, 2) := by decide +kernel
theorem dX2_judge_148 : decode cX2_judge 148 = .ok (.aload_n 0, 1) := by decide +kernel
theorem dX2_judge_149 : decode cX2_judge 149 = .ok (.getfield 36, 3) := by decide +kernel
theorem dX2_judge_152 : decode cX2_judge 152 = .ok (.aload_n 3, 1) := by decide +kernel
theorem dX2_judge_153 : decode cX2_judge 153 = .ok (.getfield 235, 3) := by decide +kernel
theorem dX2_judge_156 : decode cX2_judge 156 = .ok (.iload 6, 2) := by decide +kernel
theorem dX2_judge_158 : decode cX2_judge 158 = .ok (.aload_n 3, 1) := by decide +kernel
theorem dX2_judge_159 : decode cX2_judge 159 = .ok (.getfield 241, 3) := by decide +kernel
theorem dX2_judge_162 : decode cX2_judge 162 = .ok (.iload 4, 2) := by decide +kernel
theorem dX2_judge_164 : decode cX2_judge 164 = .ok (.aload_n 3, 1) := by decide +kernel
theorem dX2_judge_165 : decode cX2_judge 165 = .ok (.getfield 224, 3) := by decide +kernel
theorem dX2_judge_168 : decode cX2_judge 168 = .ok (.invokevirtual 244, 3) := by decide +kernel
theorem dX2_judge_171 : decode cX2_judge 171 = .ok (.return_, 1) := by decide +kernel
theorem dX2_finish_0 : decode cX2_finish 0 = .ok (.aload_n 2, 1) := by decide +kernel
theorem dX2_finish_1 : decode cX2_finish 1 = .ok (.iload_n 3, 1) := by decide +kernel
theorem dX2_finish_2 : decode cX2_finish 2 = .ok (.iload 4, 2) := by decide +kernel
theorem dX2_finish_4 : decode cX2_finish 4 = .ok (.invokevirtual 250, 3) := by decide +kernel
theorem dX2_finish_7 : decode cX2_finish 7 = .ok (.aload_n 0, 1) := by decide +kernel
theorem dX2_finish_8 : decode cX2_finish 8 = .ok (.getfield 40, 3) := by decide +kernel
theorem dX2_finish_11 : decode cX2_finish 11 = .ok (.getfield 252, 3) := by decide +kernel
theorem dX2_finish_14 : decode cX2_finish 14 = .ok (.aload_n 1, 1) := by decide +kernel
theorem dX2_finish_15 : decode cX2_finish 15 = .ok (.getfield 88, 3) := by decide +kernel
theorem dX2_finish_18 : decode cX2_finish 18 = .ok (.aload_n 1, 1) := by decide +kernel
theorem dX2_finish_19 : decode cX2_finish 19 = .ok (.invokevirtual 255, 3) := by decide +kernel
theorem dX2_finish_22 : decode cX2_finish 22 = .ok (.invokestatic 48, 3) := by decide +kernel
theorem dX2_finish_25 : decode cX2_finish 25 = .ok (.return_, 1) := by decide +kernel
theorem dX2_settle_0 : decode cX2_settle 0 = .ok (.aload_n 0, 1) := by decide +kernel
theorem dX2_settle_1 : decode cX2_settle 1 = .ok (.iconst 0, 1) := by decide +kernel
theorem dX2_settle_2 : decode cX2_settle 2 = .ok (.putfield 258, 3) := by decide +kernel
theorem dX2_settle_5 : decode cX2_settle 5 = .ok (.iconst 0, 1) := by decide +kernel
theorem dX2_settle_6 : decode cX2_settle 6 = .ok (.istore_n 1, 1) := by decide +kernel
theorem dX2_settle_7 : decode cX2_settle 7 = .ok (.iload_n 1, 1) := by decide +kernel
theorem dX2_settle_8 : decode cX2_settle 8 = .ok (.aload_n 0, 1) := by decide +kernel
theorem dX2_settle_9 : decode cX2_settle 9 = .ok (.getfield 32, 3) := by decide +kernel
theorem dX2_settle_12 : decode cX2_settle 12 = .ok (.getfield 65, 3) := by decide +kernel
theorem dX2_settle_15 : decode cX2_settle 15 = .ok (.if_icmp .ge 88, 3) := by decide +kernel
theorem dX2_settle_18 : decode cX2_settle 18 = .ok (.aload_n 0, 1) := by decide +kernel
theorem dX2_settle_19 : decode cX2_settle 19 = .ok (.getfield 32, 3) := by decide +kernel
theorem dX2_settle_22 : decode cX2_settle 22 = .ok (.iload_n 1, 1) := by decide +kernel
theorem dX2_settle_23 : decode cX2_settle 23 = .ok (.invokevirtual 68, 3) := by decide +kernel
theorem dX2_settle_26 : decode cX2_settle 26 = .ok (.astore_n 2, 1) := by decide +kernel
theorem dX2_settle_27 : decode cX2_settle 27 = .ok (.aload_n 2, 1) := by decide +kernel
theorem dX2_settle_28 : decode cX2_settle 28 = .ok (.getfield 261, 3) := by decide +kernel
theorem dX2_settle_31 : decode cX2_settle 31 = .ok (.astore_n 3, 1) := by decide +kernel
theorem dX2_settle_32 : decode cX2_settle 32 = .ok (.aload_n 3, 1) := by decide +kernel
theorem dX2_settle_33 : decode cX2_settle 33 = .ok (.arraylength, 1) := by decide +kernel
theorem dX2_settle_34 : decode cX2_settle 34 = .ok (.istore 4, 2) := by decide +kernel
theorem dX2_settle_36 : decode cX2_settle 36 = .ok (.iconst 0, 1) := by decide +kernel
theorem dX2_settle_37 : decode cX2_settle 37 = .ok (.istore 5, 2) := by decide +kernel
theorem dX2_settle_39 : decode cX2_settle 39 = .ok (.iload 5, 2) := by decide +kernel
theorem dX2_settle_41 : decode cX2_settle 41 = .ok (.iload 4, 2) := by decide +kernel
theorem dX2_settle_43 : decode cX2_settle 43 = .ok (.if_icmp .ge 54, 3) := by decide +kernel
theorem dX2_settle_46 : decode cX2_settle 46 = .ok (.aload_n 3, 1) := by decide +kernel
theorem dX2_settle_47 : decode cX2_settle 47 = .ok (.iload 5, 2) := by decide +kernel
theorem dX2_settle_49 : decode cX2_settle 49 = .ok (.aaload, 1) := by decide +kernel
theorem dX2_settle_50 : decode cX2_settle 50 = .ok (.astore 6, 2) := by decide +kernel
theorem dX2_settle_52 : decode cX2_settle 52 = .ok (.aload 6, 2) := by decide +kernel
theorem dX2_settle_54 : decode cX2_settle 54 = .ok (.getfield 112, 3) := by decide +kernel
theorem dX2_settle_57 : decode cX2_settle 57 = .ok (.ifCond .ne 10, 3) := by decide +kernel
theorem dX2_settle_60 : decode cX2_settle 60 = .ok (.aload_n 0, 1) := by decide +kernel
theorem dX2_settle_61 : decode cX2_settle 61 = .ok (.aload_n 2, 1) := by decide +kernel
theorem dX2_settle_62 : decode cX2_settle 62 = .ok (.aload 6, 2) := by decide +kernel
theorem dX2_settle_64 : decode cX2_settle 64 = .ok (.invokevirtual 265, 3) := by decide +kernel
theorem dX2_settle_67 : decode cX2_settle 67 = .ok (.aload_n 0, 1) := by decide +kernel
theorem dX2_settle_68 : decode cX2_settle 68 = .ok (.aload_n 0, 1) := by decide +kernel
theorem dX2_settle_69 : decode cX2_settle 69 = .ok (.getfield 258, 3) := by decide +kernel
theorem dX2_settle_72 : decode cX2_settle 72 = .ok (.ifCond .ne 11, 3) := by decide +kernel
theorem dX2_settle_75 : decode cX2_settle 75 = .ok (.aload 6, 2) := by decide +kernel
theorem dX2_settle_77 : decode cX2_settle 77 = .ok (.invokevirtual 269, 3) := by decide +kernel
theorem dX2_settle_80 : decode cX2_settle 80 = .ok (.ifCond .eq 7, 3) := by decide +kernel
theorem dX2_settle_83 : decode cX2_settle 83 = .ok (.iconst 1, 1) := by decide +kernel
theorem dX2_settle_84 : decode cX2_settle 84 = .ok (.goto 4, 3) := by decide +kernel
theorem dX2_settle_87 : decode cX2_settle 87 = .ok (.iconst 0, 1) := by decide +kernel
theorem dX2_settle_88 : decode cX2_settle 88 = .ok (.putfield 258, 3) := by decide +kernel
theorem dX2_settle_91 : decode cX2_settle 91 = .ok (.iinc 5 1, 3) := by decide +kernel
theorem dX2_settle_94 : decode cX2_settle 94 = .ok (.goto (-55), 3) := by decide +kernel
theorem dX2_settle_97 : decode cX2_settle 97 = .ok (.iinc 1 1, 3) := by decide +kernel
theorem dX2_settle_100 : decode cX2_settle 100 = .ok (.goto (-93), 3) := by decide +kernel
theorem dX2_settle_103 : decode cX2_settle 103 = .ok (.return_, 1) := by decide +kernel
theorem dX2_leaveOpen_0 : decode cX2_leaveOpen 0 = .ok (.aload_n 0, 1) := by decide +kernel
theorem dX2_leaveOpen_1 : decode cX2_leaveOpen 1 = .ok (.getfield 32, 3) := by decide +kernel
theorem dX2_leaveOpen_4 : decode cX2_leaveOpen 4 = .ok (.aload_n 1, 1) := by decide +kernel
theorem dX2_leaveOpen_5 : decode cX2_leaveOpen 5 = .ok (.invokevirtual 272, 3) := by decide +kernel
theorem dX2_leaveOpen_8 : decode cX2_leaveOpen 8 = .ok (.istore_n 3, 1) := by decide +kernel
theorem dX2_leaveOpen_9 : decode cX2_leaveOpen 9 = .ok (.iload_n 3, 1) := by decide +kernel
theorem dX2_leaveOpen_10 : decode cX2_leaveOpen 10 = .ok (.iconst 3, 1) := by decide +kernel
theorem dX2_leaveOpen_11 : decode cX2_leaveOpen 11 = .ok (.if_icmp .eq 9, 3) := by decide +kernel
theorem dX2_leaveOpen_14 : decode cX2_leaveOpen 14 = .ok (.aload_n 2, 1) := by decide +kernel
theorem dX2_leaveOpen_15 : decode cX2_leaveOpen 15 = .ok (.iload_n 3, 1) := by decide +kernel
theorem dX2_leaveOpen_16 : decode cX2_leaveOpen 16 = .ok (.putfield 112, 3) := by decide +kernel
theorem dX2_leaveOpen_19 : decode cX2_leaveOpen 19 = .ok (.return_, 1) := by decide +kernel
theorem dX2_leaveOpen_20 : decode cX2_leaveOpen 20 = .ok (.aload_n 0, 1) := by decide +kernel
theorem dX2_leaveOpen_21 : decode cX2_leaveOpen 21 = .ok (.getfield 40, 3) := by decide +kernel
theorem dX2_leaveOpen_24 : decode cX2_leaveOpen 24 = .ok (.aload_n 1, 1) := by decide +kernel
theorem dX2_leaveOpen_25 : decode cX2_leaveOpen 25 = .ok (.aload_n 2, 1) := by decide +kernel
theorem dX2_leaveOpen_26 : decode cX2_leaveOpen 26 = .ok (.getfield 167, 3) := by decide +kernel
theorem dX2_leaveOpen_29 : decode cX2_leaveOpen 29 = .ok (.invokevirtual 170, 3) := by decide +kernel
theorem dX2_leaveOpen_32 : decode cX2_leaveOpen 32 = .ok (.istore 4, 2) := by decide +kernel
theorem dX2_leaveOpen_34 : decode cX2_leaveOpen 34 = .ok (.aconst_null, 1) := by decide +kernel
theorem dX2_leaveOpen_35 : decode cX2_leaveOpen 35 = .ok (.astore 5, 2) := by decide +kernel
theorem dX2_leaveOpen_37 : decode cX2_leaveOpen 37 = .ok (.aload_n 1, 1) := by decide +kernel
theorem dX2_leaveOpen_38 : decode cX2_leaveOpen 38 = .ok (.iload 4, 2) := by decide +kernel
theorem dX2_leaveOpen_40 : decode cX2_leaveOpen 40 = .ok (.invokevirtual 199, 3) := by decide +kernel
theorem dX2_leaveOpen_43 : decode cX2_leaveOpen 43 = .ok (.ifCond .ne 38, 3) := by decide +kernel
theorem dX2_leaveOpen_46 : decode cX2_leaveOpen 46 = .ok (.aload_n 0, 1) := by decide +kernel
theorem dX2_leaveOpen_47 : decode cX2_leaveOpen 47 = .ok (.getfield 40, 3) := by decide +kernel
theorem dX2_leaveOpen_50 : decode cX2_leaveOpen 50 = .ok (.aload_n 1, 1) := by decide +kernel
theorem dX2_leaveOpen_51 : decode cX2_leaveOpen 51 = .ok (.iload 4, 2) := by decide +kernel
theorem dX2_leaveOpen_53 : decode cX2_leaveOpen 53 = .ok (.invokevirtual 176, 3) := by decide +kernel
theorem dX2_leaveOpen_56 : decode cX2_leaveOpen 56 = .ok (.istore 6, 2) := by decide +kernel
theorem dX2_leaveOpen_58 : decode cX2_leaveOpen 58 = .ok (.aload_n 0, 1) := by decide +kernel
theorem dX2_leaveOpen_59 : decode cX2_leaveOpen 59 = .ok (.getfield 36, 3) := by decide +kernel
theorem dX2_leaveOpen_62 : decode cX2_leaveOpen 62 = .ok (.iload 4, 2) := by decide +kernel
theorem dX2_leaveOpen_64 : decode cX2_leaveOpen 64 = .ok (.aload_n 1, 1) := by decide +kernel
theorem dX2_leaveOpen_65 : decode cX2_leaveOpen 65 = .ok (.iload 4, 2) := by decide +kernel
theorem dX2_leaveOpen_67 : decode cX2_leaveOpen 67 = .ok (.invokevirtual 238, 3) := by decide +kernel
theorem dX2_leaveOpen_70 : decode cX2_leaveOpen 70 = .ok (.iload 6, 2) := by decide +kernel
theorem dX2_leaveOpen_72 : decode cX2_leaveOpen 72 = .ok (.aload_n 0, 1) := by decide +kernel
theorem dX2_leaveOpen_73 : decode cX2_leaveOpen 73 = .ok (.getfield 28, 3) := by decide +kernel
theorem dX2_leaveOpen_76 : decode cX2_leaveOpen 76 = .ok (.invokevirtual 276, 3) := by decide +kernel
theorem dX2_leaveOpen_79 : decode cX2_leaveOpen 79 = .ok (.astore 5, 2) := by decide +kernel
theorem dX2_leaveOpen_81 : decode cX2_leaveOpen 81 = .ok (.aload 5, 2) := by decide +kernel
theorem dX2_leaveOpen_83 : decode cX2_leaveOpen 83 = .ok (.ifnonnull 11, 3) := by decide +kernel
theorem dX2_leaveOpen_86 : decode cX2_leaveOpen 86 = .ok (.aload_n 2, 1) := by decide +kernel
theorem dX2_leaveOpen_87 : decode cX2_leaveOpen 87 = .ok (.iconst 1, 1) := by decide +kernel
theorem dX2_leaveOpen_88 : decode cX2_leaveOpen 88 = .ok (.putfield 112, 3) := by decide +kernel
theorem dX2_leaveOpen_91 : decode cX2_leaveOpen 91 = .ok (.goto 24, 3) := by decide +kernel
theorem dX2_leaveOpen_94 : decode cX2_leaveOpen 94 = .ok (.aload_n 0, 1) := by decide +kernel
theorem dX2_leaveOpen_95 : decode cX2_leaveOpen 95 = .ok (.iconst 1, 1) := by decide +kernel
theorem dX2_leaveOpen_96 : decode cX2_leaveOpen 96 = .ok (.invokevirtual 117, 3) := by decide +kernel
theorem dX2_leaveOpen_99 : decode cX2_leaveOpen 99 = .ok (.aload_n 0, 1) := by decide +kernel
theorem dX2_leaveOpen_100 : decode cX2_leaveOpen 100 = .ok (.aload_n 1, 1) := by decide +kernel
theorem dX2_leaveOpen_101 : decode cX2_leaveOpen 101 = .ok (.aload_n 2, 1) := by decide +kernel
theorem dX2_leaveOpen_102 : decode cX2_leaveOpen 102 = .ok (.aload 5, 2) := by decide +kernel
theorem dX2_leaveOpen_104 : decode cX2_leaveOpen 104 = .ok (.getfield 280, 3) := by decide +kernel
theorem dX2_leaveOpen_107 : decode cX2_leaveOpen 107 = .ok (.aload 5, 2) := by decide +kernel
theorem dX2_leaveOpen_109 : decode cX2_leaveOpen 109 = .ok (.getfield 285, 3) := by decide +kernel
theorem dX2_leaveOpen_112 : decode cX2_leaveOpen 112 = .ok (.invokevirtual 225, 3) := by decide +kernel
theorem dX2_leaveOpen_115 : decode cX2_leaveOpen 115 = .ok (.return_, 1) := by decide +kernel
theorem dX3_init_0 : decode cX3_init 0 = .ok (.aload_n 0, 1) := by decide +kernel
theorem dX3_init_1 : decode cX3_init 1 = .ok (.invokespecial 3, 3) := by decide +kernel
theorem dX3_init_4 : decode cX3_init 4 = .ok (.return_, 1) := by decide +kernel
theorem dX3_fill_0 : decode cX3_fill 0 = .ok (.aload_n 0, 1) := by decide +kernel
theorem dX3_fill_1 : decode cX3_fill 1 = .ok (.iload_n 1, 1) := by decide +kernel
theorem dX3_fill_2 : decode cX3_fill 2 = .ok (.putfield 9, 3) := by decide +kernel
theorem dX3_fill_5 : decode cX3_fill 5 = .ok (.aload_n 0, 1) := by decide +kernel
theorem dX3_fill_6 : decode cX3_fill 6 = .ok (.iload_n 2, 1) := by decide +kernel
theorem dX3_fill_7 : decode cX3_fill 7 = .ok (.putfield 15, 3) := by decide +kernel
theorem dX3_fill_10 : decode cX3_fill 10 = .ok (.aload_n 0, 1) := by decide +kernel
theorem dX3_fill_11 : decode cX3_fill 11 = .ok (.iload_n 3, 1) := by decide +kernel
theorem dX3_fill_12 : decode cX3_fill 12 = .ok (.putfield 18, 3) := by decide +kernel
theorem dX3_fill_15 : decode cX3_fill 15 = .ok (.aload_n 0, 1) := by decide +kernel
theorem dX3_fill_16 : decode cX3_fill 16 = .ok (.iload 4, 2) := by decide +kernel
theorem dX3_fill_18 : decode cX3_fill 18 = .ok (.putfield 21, 3) := by decide +kernel
theorem dX3_fill_21 : decode cX3_fill 21 = .ok (.aload_n 0, 1) := by decide +kernel
theorem dX3_fill_22 : decode cX3_fill 22 = .ok (.iload 5, 2) := by decide +kernel
theorem dX3_fill_24 : decode cX3_fill 24 = .ok (.putfield 24, 3) := by decide +kernel
theorem dX3_fill_27 : decode cX3_fill 27 = .ok (.aload_n 0, 1) := by decide +kernel
theorem dX3_fill_28 : decode cX3_fill 28 = .ok (.iconst 1, 1) := by decide +kernel
theorem dX3_fill_29 : decode cX3_fill 29 = .ok (.putfield 27, 3) := by decide +kernel
theorem dX3_fill_32 : decode cX3_fill 32 = .ok (.aload_n 0, 1) := by decide +kernel
theorem dX3_fill_33 : decode cX3_fill 33 = .ok (.aload_n 0, 1) := by decide +kernel
theorem dX3_fill_34 : decode cX3_fill 34 = .ok (.invokevirtual 31, 3) := by decide +kernel
theorem dX3_fill_37 : decode cX3_fill 37 = .ok (.putfield 35, 3) := by decide +kernel
theorem dX3_fill_40 : decode cX3_fill 40 = .ok (.return_, 1) := by decide +kernel
theorem dX3_rightSignature_0 : decode cX3_rightSignature 0 = .ok (.bipush 7, 2) := by decide +kernel
theorem dX3_rightSignature_2 : decode cX3_rightSignature 2 = .ok (.aload_n 0, 1) := by decide +kernel
theorem dX3_rightSignature_3 : decode cX3_rightSignature 3 = .ok (.getfield 9, 3) := by decide +kernel
theorem dX3_rightSignature_6 : decode cX3_rightSignature 6 = .ok (.invokestatic 38, 3) := by decide +kernel
theorem dX3_rightSignature_9 : decode cX3_rightSignature 9 = .ok (.aload_n 0, 1) := by decide +kernel
theorem dX3_rightSignature_10 : decode cX3_rightSignature 10 = .ok (.getfield 21, 3) := by decide +kernel
theorem dX3_rightSignature_13 : decode cX3_rightSignature 13 = .ok (.invokestatic 38, 3) := by decide +kernel
theorem dX3_rightSignature_16 : decode cX3_rightSignature 16 = .ok (.bipush 17, 2) := by decide +kernel
theorem dX3_rightSignature_18 : decode cX3_rightSignature 18 = .ok (.aload_n 0, 1) := by decide +kernel
theorem dX3_rightSignature_19 : decode cX3_rightSignature 19 = .ok (.getfield 24, 3) := by decide +kernel
theorem dX3_rightSignature_22 : decode cX3_rightSignature 22 = .ok (.imul, 1) := by decide +kernel
theorem dX3_rightSignature_23 : decode cX3_rightSignature 23 = .ok (.iconst 5, 1) := by decide +kernel
theorem dX3_rightSignature_24 : decode cX3_rightSignature 24 = .ok (.iadd, 1) := by decide +kernel
theorem dX3_rightSignature_25 : decode cX3_rightSignature 25 = .ok (.invokestatic 38, 3) := by decide +kernel
theorem dX3_rightSignature_28 : decode cX3_rightSignature 28 = .ok (.ireturn, 1) := by decide +kernel
theorem dX3_isRightlySigned_0 : decode cX3_isRightlySigned 0 = .ok (.aload_n 0, 1) := by decide +kernel
theorem dX3_isRightlySigned_1 : decode cX3_isRightlySigned 1 = .ok (.getfield 35, 3) := by decide +kernel
theorem dX3_isRightlySigned_4 : decode cX3_isRightlySigned 4 = .ok (.aload_n 0, 1) := by decide +kernel
theorem dX3_isRightlySigned_5 : decode cX3_isRightlySigned 5 = .ok (.invokevirtual 31, 3) := by decide +kernel
theorem dX3_isRightlySigned_8 : decode cX3_isRightlySigned 8 = .ok (.if_icmp .ne 7, 3) := by decide +kernel
theorem dX3_isRightlySigned_11 : decode cX3_isRightlySigned 11 = .ok (.iconst 1, 1) := by decide +kernel
theorem dX3_isRightlySigned_12 : decode cX3_isRightlySigned 12 = .ok (.goto 4, 3) := by decide +kernel
theorem dX3_isRightlySigned_15 : decode cX3_isRightlySigned 15 = .ok (.iconst 0, 1) := by decide +kernel
theorem dX3_isRightlySigned_16 : decode cX3_isRightlySigned 16 = .ok (.ireturn, 1) := by decide +kernel
theorem dX3_isOf_0 : decode cX3_isOf 0 = .ok (.aload_n 0, 1) := by decide +kernel
theorem dX3_isOf_1 : decode cX3_isOf 1 = .ok (.getfield 27, 3) := by decide +kernel
theorem dX3_isOf_4 : decode cX3_isOf 4 = .ok (.ifCond .eq 31, 3) := by decide +kernel
theorem dX3_isOf_7 : decode cX3_isOf 7 = .ok (.aload_n 0, 1) := by decide +kernel
theorem dX3_isOf_8 : decode cX3_isOf 8 = .ok (.getfield 9, 3) := by decide +kernel
theorem dX3_isOf_11 : decode cX3_isOf 11 = .ok (.iload_n 1, 1) := by decide +kernel
theorem dX3_isOf_12 : decode cX3_isOf 12 = .ok (.if_icmp .ne 23, 3) := by decide +kernel
theorem dX3_isOf_15 : decode cX3_isOf 15 = .ok (.aload_n 0, 1) := by decide +kernel
theorem dX3_isOf_16 : decode cX3_isOf 16 = .ok (.getfield 15, 3) := by decide +kernel
theorem dX3_isOf_19 : decode cX3_isOf 19 = .ok (.iload_n 2, 1) := by decide +kernel
theorem dX3_isOf_20 : decode cX3_isOf 20 = .ok (.if_icmp .ne 15, 3) := by decide +kernel
theorem dX3_isOf_23 : decode cX3_isOf 23 = .ok (.aload_n 0, 1) := by decide +kernel
theorem dX3_isOf_24 : decode cX3_isOf 24 = .ok (.getfield 18, 3) := by decide +kernel
theorem dX3_isOf_27 : decode cX3_isOf 27 = .ok (.iload_n 3, 1) := by decide +kernel
theorem dX3_isOf_28 : decode cX3_isOf 28 = .ok (.if_icmp .ne 7, 3) := by decide +kernel
theorem dX3_isOf_31 : decode cX3_isOf 31 = .ok (.iconst 1, 1) := by decide +kernel
theorem dX3_isOf_32 : decode cX3_isOf 32 = .ok (.goto 4, 3) := by decide +kernel
theorem dX3_isOf_35 : decode cX3_isOf 35 = .ok (.iconst 0, 1) := by decide +kernel
theorem dX3_isOf_36 : decode cX3_isOf 36 = .ok (.ireturn, 1) := by decide +kernel
theorem dX3_tell_0 : decode cX3_tell 0 = .ok (.iload_n 1, 1) := by decide +kernel
theorem dX3_tell_1 : decode cX3_tell 1 = .ok (.tableswitch 77 0 5 #[39, 44, 49, 54, 59, 64], 39) := by decide +kernel
theorem dX3_tell_40 : decode cX3_tell 40 = .ok (.aload_n 0, 1) := by decide +kernel
theorem dX3_tell_41 : decode cX3_tell 41 = .ok (.getfield 9, 3) := by decide +kernel
theorem dX3_tell_44 : decode cX3_tell 44 = .ok (.ireturn, 1) := by decide +kernel
theorem dX3_tell_45 : decode cX3_tell 45 = .ok (.aload_n 0, 1) := by decide +kernel
theorem dX3_tell_46 : decode cX3_tell 46 = .ok (.getfield 15, 3) := by decide +kernel
theorem dX3_tell_49 : decode cX3_tell 49 = .ok (.ireturn, 1) := by decide +kernel
theorem dX3_tell_50 : decode cX3_tell 50 = .ok (.aload_n 0, 1) := by decide +kernel
theorem dX3_tell_51 : decode cX3_tell 51 = .ok (.getfield 18, 3) := by decide +kernel
theorem dX3_tell_54 : decode cX3_tell 54 = .ok (.ireturn, 1) := by decide +kernel
theorem dX3_tell_55 : decode cX3_tell 55 = .ok (.aload_n 0, 1) := by decide +kernel
theorem dX3_tell_56 : decode cX3_tell 56 = .ok (.getfield 21, 3) := by decide +kernel
theorem dX3_tell_59 : decode cX3_tell 59 = .ok (.ireturn, 1) := by decide +kernel
theorem dX3_tell_60 : decode cX3_tell 60 = .ok (.aload_n 0, 1) := by decide +kernel
theorem dX3_tell_61 : decode cX3_tell 61 = .ok (.getfield 24, 3) := by decide +kernel
theorem dX3_tell_64 : decode cX3_tell 64 = .ok (.ireturn, 1) := by decide +kernel
theorem dX3_tell_65 : decode cX3_tell 65 = .ok (.aload_n 0, 1) := by decide +kernel
theorem dX3_tell_66 : decode cX3_tell 66 = .ok (.getfield 27, 3) := by decide +kernel
theorem dX3_tell_69 : decode cX3_tell 69 = .ok (.ifCond .eq 7, 3) := by decide +kernel
theorem dX3_tell_72 : decode cX3_tell 72 = .ok (.iconst 1, 1) := by decide +kernel
theorem dX3_tell_73 : decode cX3_tell 73 = .ok (.goto 4, 3) := by decide +kernel
theorem dX3_tell_76 : decode cX3_tell 76 = .ok (.iconst 0, 1) := by decide +kernel
theorem dX3_tell_77 : decode cX3_tell 77 = .ok (.ireturn, 1) := by decide +kernel
theorem dX3_tell_78 : decode cX3_tell 78 = .ok (.aload_n 0, 1) := by decide +kernel
theorem dX3_tell_79 : decode cX3_tell 79 = .ok (.invokevirtual 42, 3) := by decide +kernel
theorem dX3_tell_82 : decode cX3_tell 82 = .ok (.ifCond .eq 7, 3) := by decide +kernel
theorem dX3_tell_85 : decode cX3_tell 85 = .ok (.iconst 1, 1) := by decide +kernel
theorem dX3_tell_86 : decode cX3_tell 86 = .ok (.goto 4, 3) := by decide +kernel
theorem dX3_tell_89 : decode cX3_tell 89 = .ok (.iconst 0, 1) := by decide +kernel
theorem dX3_tell_90 : decode cX3_tell 90 = .ok (.ireturn, 1) := by decide +kernel
theorem dX4_init_0 : decode cX4_init 0 = .ok (.aload_n 0, 1) := by decide +kernel
theorem dX4_init_1 : decode cX4_init 1 = .ok (.invokespecial 3, 3) := by decide +kernel
theorem dX4_init_4 : decode cX4_init 4 = .ok (.aload_n 0, 1) := by decide +kernel
theorem dX4_init_5 : decode cX4_init 5 = .ok (.aload_n 1, 1) := by decide +kernel
theorem dX4_init_6 : decode cX4_init 6 = .ok (.putfield 9, 3) := by decide +kernel
theorem dX4_init_9 : decode cX4_init 9 = .ok (.aload_n 0, 1) := by decide +kernel
theorem dX4_init_10 : decode cX4_init 10 = .ok (.aload_n 2, 1) := by decide +kernel
theorem dX4_init_11 : decode cX4_init 11 = .ok (.putfield 15, 3) := by decide +kernel
theorem dX4_init_14 : decode cX4_init 14 = .ok (.aload_n 0, 1) := by decide +kernel
theorem dX4_init_15 : decode cX4_init 15 = .ok (.new 19, 3) := by decide +kernel
theorem dX4_init_18 : decode cX4_init 18 = .ok (.dup, 1) := by decide +kernel
theorem dX4_init_19 : decode cX4_init 19 = .ok (.aload_n 2, 1) := by decide +kernel
theorem dX4_init_20 : decode cX4_init 20 = .ok (.getfield 21, 3) := by decide +kernel
theorem dX4_init_23 : decode cX4_init 23 = .ok (.bipush 16, 2) := by decide +kernel
theorem dX4_init_25 : decode cX4_init 25 = .ok (.newarray .int, 2) := by decide +kernel
theorem dX4_init_27 : decode cX4_init 27 = .ok (.invokespecial 27, 3) := by decide +kernel
theorem dX4_init_30 : decode cX4_init 30 = .ok (.putfield 30, 3) := by decide +kernel
theorem dX4_init_33 : decode cX4_init 33 = .ok (.return_, 1) := by decide +kernel
theorem dX4_goodTargets_0 : decode cX4_goodTargets 0 = .ok (.aload_n 0, 1) := by decide +kernel
theorem dX4_goodTargets_1 : decode cX4_goodTargets 1 = .ok (.iload_n 1, 1) := by decide +kernel
theorem dX4_goodTargets_2 : decode cX4_goodTargets 2 = .ok (.invokevirtual 34, 3) := by decide +kernel
theorem dX4_goodTargets_5 : decode cX4_goodTargets 5 = .ok (.aload_n 0, 1) := by decide +kernel
theorem dX4_goodTargets_6 : decode cX4_goodTargets 6 = .ok (.getfield 38, 3) := by decide +kernel
theorem dX4_goodTargets_9 : decode cX4_goodTargets 9 = .ok (.ireturn, 1) := by decide +kernel
theorem dX4_digestOf_0 : decode cX4_digestOf 0 = .ok (.aload_n 0, 1) := by decide +kernel
theorem dX4_digestOf_1 : decode cX4_digestOf 1 = .ok (.aload_n 0, 1) := by decide +kernel
theorem dX4_digestOf_2 : decode cX4_digestOf 2 = .ok (.getfield 15, 3) := by decide +kernel
theorem dX4_digestOf_5 : decode cX4_digestOf 5 = .ok (.getfield 42, 3) := by decide +kernel
theorem dX4_digestOf_8 : decode cX4_digestOf 8 = .ok (.invokevirtual 34, 3) := by decide +kernel
theorem dX4_digestOf_11 : decode cX4_digestOf 11 = .ok (.aload_n 0, 1) := by decide +kernel
theorem dX4_digestOf_12 : decode cX4_digestOf 12 = .ok (.getfield 30, 3) := by decide +kernel
theorem dX4_digestOf_15 : decode cX4_digestOf 15 = .ok (.getfield 45, 3) := by decide +kernel
theorem dX4_digestOf_18 : decode cX4_digestOf 18 = .ok (.aload_n 1, 1) := by decide +kernel
theorem dX4_digestOf_19 : decode cX4_digestOf 19 = .ok (.getfield 48, 3) := by decide +kernel
theorem dX4_digestOf_22 : decode cX4_digestOf 22 = .ok (.invokestatic 53, 3) := by decide +kernel
theorem dX4_digestOf_25 : decode cX4_digestOf 25 = .ok (.ireturn, 1) := by decide +kernel
theorem dX4_isStale_0 : decode cX4_isStale 0 = .ok (.aload_n 1, 1) := by decide +kernel
theorem dX4_isStale_1 : decode cX4_isStale 1 = .ok (.invokevirtual 57, 3) := by decide +kernel
theorem dX4_isStale_4 : decode cX4_isStale 4 = .ok (.ifCond .ne 5, 3) := by decide +kernel
theorem dX4_isStale_7 : decode cX4_isStale 7 = .ok (.iconst 0, 1) := by decide +kernel
theorem dX4_isStale_8 : decode cX4_isStale 8 = .ok (.ireturn, 1) := by decide +kernel
theorem dX4_isStale_9 : decode cX4_isStale 9 = .ok (.aload_n 0, 1) := by decide +kernel
theorem dX4_isStale_10 : decode cX4_isStale 10 = .ok (.aload_n 0, 1) := by decide +kernel
theorem dX4_isStale_11 : decode cX4_isStale 11 = .ok (.getfield 15, 3) := by decide +kernel
theorem dX4_isStale_14 : decode cX4_isStale 14 = .ok (.getfield 42, 3) := by decide +kernel
theorem dX4_isStale_17 : decode cX4_isStale 17 = .ok (.invokevirtual 34, 3) := by decide +kernel
theorem dX4_isStale_20 : decode cX4_isStale 20 = .ok (.iconst 0, 1) := by decide +kernel
theorem dX4_isStale_21 : decode cX4_isStale 21 = .ok (.istore_n 2, 1) := by decide +kernel
theorem dX4_isStale_22 : decode cX4_isStale 22 = .ok (.iload_n 2, 1) := by decide +kernel
theorem dX4_isStale_23 : decode cX4_isStale 23 = .ok (.aload_n 1, 1) := by decide +kernel
theorem dX4_isStale_24 : decode cX4_isStale 24 = .ok (.getfield 61, 3) := by decide +kernel
theorem dX4_isStale_27 : decode cX4_isStale 27 = .ok (.if_icmp .ge 45, 3) := by decide +kernel
theorem dX4_isStale_30 : decode cX4_isStale 30 = .ok (.aload_n 0, 1) := by decide +kernel
theorem dX4_isStale_31 : decode cX4_isStale 31 = .ok (.getfield 30, 3) := by decide +kernel
theorem dX4_isStale_34 : decode cX4_isStale 34 = .ok (.aload_n 1, 1) := by decide +kernel
theorem dX4_isStale_35 : decode cX4_isStale 35 = .ok (.iload_n 2, 1) := by decide +kernel
theorem dX4_isStale_36 : decode cX4_isStale 36 = .ok (.invokevirtual 64, 3) := by decide +kernel
theorem dX4_isStale_39 : decode cX4_isStale 39 = .ok (.istore_n 3, 1) := by decide +kernel
theorem dX4_isStale_40 : decode cX4_isStale 40 = .ok (.aload_n 1, 1) := by decide +kernel
theorem dX4_isStale_41 : decode cX4_isStale 41 = .ok (.iload_n 2, 1) := by decide +kernel
theorem dX4_isStale_42 : decode cX4_isStale 42 = .ok (.invokevirtual 68, 3) := by decide +kernel
theorem dX4_isStale_45 : decode cX4_isStale 45 = .ok (.getfield 72, 3) := by decide +kernel
theorem dX4_isStale_48 : decode cX4_isStale 48 = .ok (.iload_n 3, 1) := by decide +kernel
theorem dX4_isStale_49 : decode cX4_isStale 49 = .ok (.aload_n 0, 1) := by decide +kernel
theorem dX4_isStale_50 : decode cX4_isStale 50 = .ok (.getfield 30, 3) := by decide +kernel
theorem dX4_isStale_53 : decode cX4_isStale 53 = .ok (.aload_n 1, 1) := by decide +kernel
theorem dX4_isStale_54 : decode cX4_isStale 54 = .ok (.iload_n 3, 1) := by decide +kernel
theorem dX4_isStale_55 : decode cX4_isStale 55 = .ok (.invokevirtual 77, 3) := by decide +kernel
theorem dX4_isStale_58 : decode cX4_isStale 58 = .ok (.invokestatic 80, 3) := by decide +kernel
theorem dX4_isStale_61 : decode cX4_isStale 61 = .ok (.if_icmp .eq 5, 3) := by decide +kernel
theorem dX4_isStale_64 : decode cX4_isStale 64 = .ok (.iconst 1, 1) := by decide +kernel
theorem dX4_isStale_65 : decode cX4_isStale 65 = .ok (.ireturn, 1) := by decide +kernel
theorem dX4_isStale_66 : decode cX4_isStale 66 = .ok (.iinc 2 1, 3) := by decide +kernel
theorem dX4_isStale_69 : decode cX4_isStale 69 = .ok (.goto (-47), 3) := by decide +kernel
theorem dX4_isStale_72 : decode cX4_isStale 72 = .ok (.iconst 0, 1) := by decide +kernel
theorem dX4_isStale_73 : decode cX4_isStale 73 = .ok (.ireturn, 1) := by decide +kernel
theorem dX4_make_0 : decode cX4_make 0 = .ok (.aload_n 0, 1) := by decide +kernel
theorem dX4_make_1 : decode cX4_make 1 = .ok (.getfield 15, 3) := by decide +kernel
theorem dX4_make_4 : decode cX4_make 4 = .ok (.iload_n 1, 1) := by decide +kernel
theorem dX4_make_5 : decode cX4_make 5 = .ok (.aload_n 0, 1) := by decide +kernel
theorem dX4_make_6 : decode cX4_make 6 = .ok (.getfield 30, 3) := by decide +kernel
theorem dX4_make_9 : decode cX4_make 9 = .ok (.getfield 84, 3) := by decide +kernel
theorem dX4_make_12 : decode cX4_make 12 = .ok (.invokevirtual 87, 3) := by decide +kernel
theorem dX4_make_15 : decode cX4_make 15 = .ok (.aload_n 0, 1) := by decide +kernel
theorem dX4_make_16 : decode cX4_make 16 = .ok (.iconst 0, 1) := by decide +kernel
theorem dX4_make_17 : decode cX4_make 17 = .ok (.putfield 38, 3) := by decide +kernel
theorem dX4_make_20 : decode cX4_make 20 = .ok (.iconst 0, 1) := by decide +kernel
theorem dX4_make_21 : decode cX4_make 21 = .ok (.istore_n 2, 1) := by decide +kernel
theorem dX4_make_22 : decode cX4_make 22 = .ok (.iload_n 2, 1) := by decide +kernel
theorem dX4_make_23 : decode cX4_make 23 = .ok (.aload_n 0, 1) := by decide +kernel
theorem dX4_make_24 : decode cX4_make 24 = .ok (.getfield 9, 3) := by decide +kernel
theorem dX4_make_27 : decode cX4_make 27 = .ok (.getfield 91, 3) := by decide +kernel
theorem dX4_make_30 : decode cX4_make 30 = .ok (.if_icmp .ge 21, 3) := by decide +kernel
theorem dX4_make_33 : decode cX4_make 33 = .ok (.aload_n 0, 1) := by decide +kernel
theorem dX4_make_34 : decode cX4_make 34 = .ok (.aload_n 0, 1) := by decide +kernel
theorem dX4_make_35 : decode cX4_make 35 = .ok (.getfield 9, 3) := by decide +kernel
theorem dX4_make_38 : decode cX4_make 38 = .ok (.iload_n 2, 1) := by decide +kernel
theorem dX4_make_39 : decode cX4_make 39 = .ok (.invokevirtual 96, 3) := by decide +kernel
theorem dX4_make_42 : decode cX4_make 42 = .ok (.invokevirtual 100, 3) := by decide +kernel
theorem dX4_make_45 : decode cX4_make 45 = .ok (.iinc 2 1, 3) := by decide +kernel
theorem dX4_make_48 : decode cX4_make 48 = .ok (.goto (-26), 3) := by decide +kernel
theorem dX4_make_51 : decode cX4_make 51 = .ok (.return_, 1) := by decide +kernel
theorem dX4_makeTarget_0 : decode cX4_makeTarget 0 = .ok (.bipush 7, 2) := by decide +kernel
theorem dX4_makeTarget_2 : decode cX4_makeTarget 2 = .ok (.istore_n 2, 1) := by decide +kernel
theorem dX4_makeTarget_3 : decode cX4_makeTarget 3 = .ok (.aload_n 0, 1) := by decide +kernel
theorem dX4_makeTarget_4 : decode cX4_makeTarget 4 = .ok (.getfield 9, 3) := by decide +kernel
theorem dX4_makeTarget_7 : decode cX4_makeTarget 7 = .ok (.aload_n 1, 1) := by decide +kernel
theorem dX4_makeTarget_8 : decode cX4_makeTarget 8 = .ok (.invokevirtual 104, 3) := by decide +kernel
theorem dX4_makeTarget_11 : decode cX4_makeTarget 11 = .ok (.aload_n 0, 1) := by decide +kernel
theorem dX4_makeTarget_12 : decode cX4_makeTarget 12 = .ok (.getfield 38, 3) := by decide +kernel
theorem dX4_makeTarget_15 : decode cX4_makeTarget 15 = .ok (.iconst (-1), 1) := by decide +kernel
theorem dX4_makeTarget_16 : decode cX4_makeTarget 16 = .ok (.ixor, 1) := by decide +kernel
theorem dX4_makeTarget_17 : decode cX4_makeTarget 17 = .ok (.iand, 1) := by decide +kernel
theorem dX4_makeTarget_18 : decode cX4_makeTarget 18 = .ok (.ifCond .ne 7, 3) := by decide +kernel
theorem dX4_makeTarget_21 : decode cX4_makeTarget 21 = .ok (.iconst 1, 1) := by decide +kernel
theorem dX4_makeTarget_22 : decode cX4_makeTarget 22 = .ok (.goto 4, 3) := by decide +kernel
theorem dX4_makeTarget_25 : decode cX4_makeTarget 25 = .ok (.iconst 0, 1) := by decide +kernel
theorem dX4_makeTarget_26 : decode cX4_makeTarget 26 = .ok (.istore_n 3, 1) := by decide +kernel
theorem dX4_makeTarget_27 : decode cX4_makeTarget 27 = .ok (.iconst 0, 1) := by decide +kernel
theorem dX4_makeTarget_28 : decode cX4_makeTarget 28 = .ok (.istore 4, 2) := by decide +kernel
theorem dX4_makeTarget_30 : decode cX4_makeTarget 30 = .ok (.iload 4, 2) := by decide +kernel
theorem dX4_makeTarget_32 : decode cX4_makeTarget 32 = .ok (.aload_n 1, 1) := by decide +kernel
theorem dX4_makeTarget_33 : decode cX4_makeTarget 33 = .ok (.getfield 61, 3) := by decide +kernel
theorem dX4_makeTarget_36 : decode cX4_makeTarget 36 = .ok (.if_icmp .ge 73, 3) := by decide +kernel
theorem dX4_makeTarget_39 : decode cX4_makeTarget 39 = .ok (.aload_n 0, 1) := by decide +kernel
theorem dX4_makeTarget_40 : decode cX4_makeTarget 40 = .ok (.getfield 30, 3) := by decide +kernel
theorem dX4_makeTarget_43 : decode cX4_makeTarget 43 = .ok (.aload_n 1, 1) := by decide +kernel
theorem dX4_makeTarget_44 : decode cX4_makeTarget 44 = .ok (.iload 4, 2) := by decide +kernel
theorem dX4_makeTarget_46 : decode cX4_makeTarget 46 = .ok (.invokevirtual 64, 3) := by decide +kernel
theorem dX4_makeTarget_49 : decode cX4_makeTarget 49 = .ok (.istore 5, 2) := by decide +kernel
theorem dX4_makeTarget_51 : decode cX4_makeTarget 51 = .ok (.iload 5, 2) := by decide +kernel
theorem dX4_makeTarget_53 : decode cX4_makeTarget 53 = .ok (.aload_n 0, 1) := by decide +kernel
theorem dX4_makeTarget_54 : decode cX4_makeTarget 54 = .ok (.getfield 30, 3) := by decide +kernel
theorem dX4_makeTarget_57 : decode cX4_makeTarget 57 = .ok (.aload_n 1, 1) := by decide +kernel
theorem dX4_makeTarget_58 : decode cX4_makeTarget 58 = .ok (.iload 5, 2) := by decide +kernel
theorem dX4_makeTarget_60 : decode cX4_makeTarget 60 = .ok (.invokevirtual 77, 3) := by decide +kernel
theorem dX4_makeTarget_63 : decode cX4_makeTarget 63 = .ok (.invokestatic 80, 3) := by decide +kernel
theorem dX4_makeTarget_66 : decode cX4_makeTarget 66 = .ok (.istore 6, 2) := by decide +kernel
theorem dX4_makeTarget_68 : decode cX4_makeTarget 68 = .ok (.iload_n 2, 1) := by decide +kernel
theorem dX4_makeTarget_69 : decode cX4_makeTarget 69 = .ok (.iload 6, 2) := by decide +kernel
theorem dX4_makeTarget_71 : decode cX4_makeTarget 71 = .ok (.invokestatic 108, 3) := by decide +kernel
theorem dX4_makeTarget_74 : decode cX4_makeTarget 74 = .ok (.istore_n 2, 1) := by decide +kernel
theorem dX4_makeTarget_75 : decode cX4_makeTarget 75 = .ok (.iload_n 3, 1) := by decide +kernel
theorem dX4_makeTarget_76 : decode cX4_makeTarget 76 = .ok (.ifCond .eq 25, 3) := by decide +kernel
theorem dX4_makeTarget_79 : decode cX4_makeTarget 79 = .ok (.aload_n 1, 1) := by decide +kernel
theorem dX4_makeTarget_80 : decode cX4_makeTarget 80 = .ok (.iload 5, 2) := by decide +kernel
theorem dX4_makeTarget_82 : decode cX4_makeTarget 82 = .ok (.invokevirtual 111, 3) := by decide +kernel
theorem dX4_makeTarget_85 : decode cX4_makeTarget 85 = .ok (.ifCond .ne 16, 3) := by decide +kernel
theorem dX4_makeTarget_88 : decode cX4_makeTarget 88 = .ok (.aload_n 1, 1) := by decide +kernel
theorem dX4_makeTarget_89 : decode cX4_makeTarget 89 = .ok (.iload 6, 2) := by decide +kernel
theorem dX4_makeTarget_91 : decode cX4_makeTarget 91 = .ok (.invokevirtual 115, 3) := by decide +kernel
theorem dX4_makeTarget_94 : decode cX4_makeTarget 94 = .ok (.ifCond .eq 7, 3) := by decide +kernel
theorem dX4_makeTarget_97 : decode cX4_makeTarget 97 = .ok (.iconst 1, 1) := by decide +kernel
theorem dX4_makeTarget_98 : decode cX4_makeTarget 98 = .ok (.goto 4, 3) := by decide +kernel
theorem dX4_makeTarget_101 : decode cX4_makeTarget 101 = .ok (.iconst 0, 1) := by decide +kernel
theorem dX4_makeTarget_102 : decode cX4_makeTarget 102 = .ok (.istore_n 3, 1) := by decide +kernel
theorem dX4_makeTarget_103 : decode cX4_makeTarget 103 = .ok (.iinc 4 1, 3) := by decide +kernel
theorem dX4_makeTarget_106 : decode cX4_makeTarget 106 = .ok (.goto (-76), 3) := by decide +kernel
theorem dX4_makeTarget_109 : decode cX4_makeTarget 109 = .ok (.aload_n 0, 1) := by decide +kernel
theorem dX4_makeTarget_110 : decode cX4_makeTarget 110 = .ok (.getfield 30, 3) := by decide +kernel
theorem dX4_makeTarget_113 : decode cX4_makeTarget 113 = .ok (.getfield 45, 3) := by decide +kernel
theorem dX4_makeTarget_116 : decode cX4_makeTarget 116 = .ok (.aload_n 1, 1) := by decide +kernel
theorem dX4_makeTarget_117 : decode cX4_makeTarget 117 = .ok (.getfield 48, 3) := by decide +kernel
theorem dX4_makeTarget_120 : decode cX4_makeTarget 120 = .ok (.iload_n 2, 1) := by decide +kernel
theorem dX4_makeTarget_121 : decode cX4_makeTarget 121 = .ok (.invokestatic 118, 3) := by decide +kernel
theorem dX4_makeTarget_124 : decode cX4_makeTarget 124 = .ok (.iload_n 3, 1) := by decide +kernel
theorem dX4_makeTarget_125 : decode cX4_makeTarget 125 = .ok (.ifCond .eq 18, 3) := by decide +kernel
theorem dX4_makeTarget_128 : decode cX4_makeTarget 128 = .ok (.aload_n 0, 1) := by decide +kernel
theorem dX4_makeTarget_129 : decode cX4_makeTarget 129 = .ok (.dup, 1) := by decide +kernel
theorem dX4_makeTarget_130 : decode cX4_makeTarget 130 = .ok (.getfield 38, 3) := by decide +kernel
theorem dX4_makeTarget_133 : decode cX4_makeTarget 133 = .ok (.iconst 1, 1) := by decide +kernel
theorem dX4_makeTarget_134 : decode cX4_makeTarget 134 = .ok (.aload_n 1, 1) := by decide +kernel
theorem dX4_makeTarget_135 : decode cX4_makeTarget 135 = .ok (.getfield 48, 3) := by decide +kernel
theorem dX4_makeTarget_138 : decode cX4_makeTarget 138 = .ok (.ishl, 1) := by decide +kernel
theorem dX4_makeTarget_139 : decode cX4_makeTarget 139 = .ok (.ior, 1) := by decide +kernel
theorem dX4_makeTarget_140 : decode cX4_makeTarget 140 = .ok (.putfield 38, 3) := by decide +kernel
theorem dX4_makeTarget_143 : decode cX4_makeTarget 143 = .ok (.return_, 1) := by decide +kernel
theorem dX5_init_0 : decode cX5_init 0 = .ok (.aload_n 0, 1) := by decide +kernel
theorem dX5_init_1 : decode cX5_init 1 = .ok (.invokespecial 3, 3) := by decide +kernel
theorem dX5_init_4 : decode cX5_init 4 = .ok (.aload_n 0, 1) := by decide +kernel
theorem dX5_init_5 : decode cX5_init 5 = .ok (.bipush 14, 2) := by decide +kernel
theorem dX5_init_7 : decode cX5_init 7 = .ok (.anewarray 9, 3) := by decide +kernel
theorem dX5_init_10 : decode cX5_init 10 = .ok (.putfield 11, 3) := by decide +kernel
theorem dX5_init_13 : decode cX5_init 13 = .ok (.aload_n 0, 1) := by decide +kernel
theorem dX5_init_14 : decode cX5_init 14 = .ok (.bipush 14, 2) := by decide +kernel
theorem dX5_init_16 : decode cX5_init 16 = .ok (.newarray .int, 2) := by decide +kernel
theorem dX5_init_18 : decode cX5_init 18 = .ok (.putfield 17, 3) := by decide +kernel
theorem dX5_init_21 : decode cX5_init 21 = .ok (.aload_n 0, 1) := by decide +kernel
theorem dX5_init_22 : decode cX5_init 22 = .ok (.bipush 14, 2) := by decide +kernel
theorem dX5_init_24 : decode cX5_init 24 = .ok (.newarray .int, 2) := by decide +kernel
theorem dX5_init_26 : decode cX5_init 26 = .ok (.putfield 21, 3) := by decide +kernel
theorem dX5_init_29 : decode cX5_init 29 = .ok (.aload_n 0, 1) := by decide +kernel
theorem dX5_init_30 : decode cX5_init 30 = .ok (.new 9, 3) := by decide +kernel
theorem dX5_init_33 : decode cX5_init 33 = .ok (.dup, 1) := by decide +kernel
theorem dX5_init_34 : decode cX5_init 34 = .ok (.iconst (-1), 1) := by decide +kernel
theorem dX5_init_35 : decode cX5_init 35 = .ok (.aload_n 1, 1) := by decide +kernel
theorem dX5_init_36 : decode cX5_init 36 = .ok (.invokespecial 24, 3) := by decide +kernel
theorem dX5_init_39 : decode cX5_init 39 = .ok (.putfield 27, 3) := by decide +kernel
theorem dX5_init_42 : decode cX5_init 42 = .ok (.aload_n 0, 1) := by decide +kernel
theorem dX5_init_43 : decode cX5_init 43 = .ok (.new 31, 3) := by decide +kernel
theorem dX5_init_46 : decode cX5_init 46 = .ok (.dup, 1) := by decide +kernel
theorem dX5_init_47 : decode cX5_init 47 = .ok (.aload_n 1, 1) := by decide +kernel
theorem dX5_init_48 : decode cX5_init 48 = .ok (.invokespecial 33, 3) := by decide +kernel
theorem dX5_init_51 : decode cX5_init 51 = .ok (.putfield 36, 3) := by decide +kernel
theorem dX5_init_54 : decode cX5_init 54 = .ok (.iconst 0, 1) := by decide +kernel
theorem dX5_init_55 : decode cX5_init 55 = .ok (.istore_n 2, 1) := by decide +kernel
theorem dX5_init_56 : decode cX5_init 56 = .ok (.iload_n 2, 1) := by decide +kernel
theorem dX5_init_57 : decode cX5_init 57 = .ok (.bipush 14, 2) := by decide +kernel
theorem dX5_init_59 : decode cX5_init 59 = .ok (.if_icmp .ge 24, 3) := by decide +kernel
theorem dX5_init_62 : decode cX5_init 62 = .ok (.aload_n 0, 1) := by decide +kernel
theorem dX5_init_63 : decode cX5_init 63 = .ok (.getfield 11, 3) := by decide +kernel
theorem dX5_init_66 : decode cX5_init 66 = .ok (.iload_n 2, 1) := by decide +kernel
theorem dX5_init_67 : decode cX5_init 67 = .ok (.new 9, 3) := by decide +kernel
theorem dX5_init_70 : decode cX5_init 70 = .ok (.dup, 1) := by decide +kernel
theorem dX5_init_71 : decode cX5_init 71 = .ok (.iload_n 2, 1) := by decide +kernel
theorem dX5_init_72 : decode cX5_init 72 = .ok (.aload_n 1, 1) := by decide +kernel
theorem dX5_init_73 : decode cX5_init 73 = .ok (.invokespecial 24, 3) := by decide +kernel
theorem dX5_init_76 : decode cX5_init 76 = .ok (.aastore, 1) := by decide +kernel
theorem dX5_init_77 : decode cX5_init 77 = .ok (.iinc 2 1, 3) := by decide +kernel
theorem dX5_init_80 : decode cX5_init 80 = .ok (.goto (-24), 3) := by decide +kernel
theorem dX5_init_83 : decode cX5_init 83 = .ok (.return_, 1) := by decide +kernel
theorem dX5_tellNext_0 : decode cX5_tellNext 0 = .ok (.aload_n 0, 1) := by decide +kernel
theorem dX5_tellNext_1 : decode cX5_tellNext 1 = .ok (.getfield 40, 3) := by decide +kernel
theorem dX5_tellNext_4 : decode cX5_tellNext 4 = .ok (.bipush 14, 2) := by decide +kernel
theorem dX5_tellNext_6 : decode cX5_tellNext 6 = .ok (.if_icmp .ge 13, 3) := by decide +kernel
theorem dX5_tellNext_9 : decode cX5_tellNext 9 = .ok (.aload_n 0, 1) := by decide +kernel
theorem dX5_tellNext_10 : decode cX5_tellNext 10 = .ok (.dup, 1) := by decide +kernel
theorem dX5_tellNext_11 : decode cX5_tellNext 11 = .ok (.getfield 40, 3) := by decide +kernel
theorem dX5_tellNext_14 : decode cX5_tellNext 14 = .ok (.iconst 1, 1) := by decide +kernel
theorem dX5_tellNext_15 : decode cX5_tellNext 15 = .ok (.iadd, 1) := by decide +kernel
theorem dX5_tellNext_16 : decode cX5_tellNext 16 = .ok (.putfield 40, 3) := by decide +kernel
theorem dX5_tellNext_19 : decode cX5_tellNext 19 = .ok (.aload_n 0, 1) := by decide +kernel
theorem dX5_tellNext_20 : decode cX5_tellNext 20 = .ok (.aload_n 0, 1) := by decide +kernel
theorem dX5_tellNext_21 : decode cX5_tellNext 21 = .ok (.getfield 40, 3) := by decide +kernel
theorem dX5_tellNext_24 : decode cX5_tellNext 24 = .ok (.iconst 1, 1) := by decide +kernel
theorem dX5_tellNext_25 : decode cX5_tellNext 25 = .ok (.isub, 1) := by decide +kernel
theorem dX5_tellNext_26 : decode cX5_tellNext 26 = .ok (.invokevirtual 44, 3) := by decide +kernel
theorem dX5_tellNext_29 : decode cX5_tellNext 29 = .ok (.areturn, 1) := by decide +kernel
theorem dX5_targetAt_0 : decode cX5_targetAt 0 = .ok (.iload_n 1, 1) := by decide +kernel
theorem dX5_targetAt_1 : decode cX5_targetAt 1 = .ok (.ifCond .lt 26, 3) := by decide +kernel
theorem dX5_targetAt_4 : decode cX5_targetAt 4 = .ok (.iload_n 1, 1) := by decide +kernel
theorem dX5_targetAt_5 : decode cX5_targetAt 5 = .ok (.aload_n 0, 1) := by decide +kernel
theorem dX5_targetAt_6 : decode cX5_targetAt 6 = .ok (.getfield 40, 3) := by decide +kernel
theorem dX5_targetAt_9 : decode cX5_targetAt 9 = .ok (.if_icmp .ge 18, 3) := by decide +kernel
theorem dX5_targetAt_12 : decode cX5_targetAt 12 = .ok (.iload_n 1, 1) := by decide +kernel
theorem dX5_targetAt_13 : decode cX5_targetAt 13 = .ok (.bipush 14, 2) := by decide +kernel
theorem dX5_targetAt_15 : decode cX5_targetAt 15 = .ok (.if_icmp .ge 12, 3) := by decide +kernel
theorem dX5_targetAt_18 : decode cX5_targetAt 18 = .ok (.aload_n 0, 1) := by decide +kernel
theorem dX5_targetAt_19 : decode cX5_targetAt 19 = .ok (.getfield 11, 3) := by decide +kernel
theorem dX5_targetAt_22 : decode cX5_targetAt 22 = .ok (.iload_n 1, 1) := by decide +kernel
theorem dX5_targetAt_23 : decode cX5_targetAt 23 = .ok (.aaload, 1) := by decide +kernel
theorem dX5_targetAt_24 : decode cX5_targetAt 24 = .ok (.goto 7, 3) := by decide +kernel
theorem dX5_targetAt_27 : decode cX5_targetAt 27 = .ok (.aload_n 0, 1) := by decide +kernel
theorem dX5_targetAt_28 : decode cX5_targetAt 28 = .ok (.getfield 27, 3) := by decide +kernel
theorem dX5_targetAt_31 : decode cX5_targetAt 31 = .ok (.areturn, 1) := by decide +kernel
theorem dX5_withNeeded_0 : decode cX5_withNeeded 0 = .ok (.iload_n 1, 1) := by decide +kernel
theorem dX5_withNeeded_1 : decode cX5_withNeeded 1 = .ok (.istore_n 2, 1) := by decide +kernel
theorem dX5_withNeeded_2 : decode cX5_withNeeded 2 = .ok (.aload_n 0, 1) := by decide +kernel
theorem dX5_withNeeded_3 : decode cX5_withNeeded 3 = .ok (.getfield 40, 3) := by decide +kernel
theorem dX5_withNeeded_6 : decode cX5_withNeeded 6 = .ok (.iconst 1, 1) := by decide +kernel
theorem dX5_withNeeded_7 : decode cX5_withNeeded 7 = .ok (.isub, 1) := by decide +kernel
theorem dX5_withNeeded_8 : decode cX5_withNeeded 8 = .ok (.istore_n 3, 1) := by decide +kernel
theorem dX5_withNeeded_9 : decode cX5_withNeeded 9 = .ok (.iload_n 3, 1) := by decide +kernel
theorem dX5_withNeeded_10 : decode cX5_withNeeded 10 = .ok (.ifCond .lt 30, 3) := by decide +kernel
theorem dX5_withNeeded_13 : decode cX5_withNeeded 13 = .ok (.iload_n 2, 1) := by decide +kernel
theorem dX5_withNeeded_14 : decode cX5_withNeeded 14 = .ok (.iload_n 3, 1) := by decide +kernel
theorem dX5_withNeeded_15 : decode cX5_withNeeded 15 = .ok (.invokestatic 48, 3) := by decide +kernel
theorem dX5_withNeeded_18 : decode cX5_withNeeded 18 = .ok (.iconst 1, 1) := by decide +kernel
theorem dX5_withNeeded_19 : decode cX5_withNeeded 19 = .ok (.if_icmp .ne 15, 3) := by decide +kernel
theorem dX5_withNeeded_22 : decode cX5_withNeeded 22 = .ok (.iload_n 2, 1) := by decide +kernel
theorem dX5_withNeeded_23 : decode cX5_withNeeded 23 = .ok (.aload_n 0, 1) := by decide +kernel
theorem dX5_withNeeded_24 : decode cX5_withNeeded 24 = .ok (.aload_n 0, 1) := by decide +kernel
theorem dX5_withNeeded_25 : decode cX5_withNeeded 25 = .ok (.iload_n 3, 1) := by decide +kernel
theorem dX5_withNeeded_26 : decode cX5_withNeeded 26 = .ok (.invokevirtual 44, 3) := by decide +kernel
theorem dX5_withNeeded_29 : decode cX5_withNeeded 29 = .ok (.invokevirtual 52, 3) := by decide +kernel
theorem dX5_withNeeded_32 : decode cX5_withNeeded 32 = .ok (.ior, 1) := by decide +kernel
theorem dX5_withNeeded_33 : decode cX5_withNeeded 33 = .ok (.istore_n 2, 1) := by decide +kernel
theorem dX5_withNeeded_34 : decode cX5_withNeeded 34 = .ok (.iinc 3 (-1), 3) := by decide +kernel
theorem dX5_withNeeded_37 : decode cX5_withNeeded 37 = .ok (.goto (-28), 3) := by decide +kernel
theorem dX5_withNeeded_40 : decode cX5_withNeeded 40 = .ok (.iload_n 2, 1) := by decide +kernel
theorem dX5_withNeeded_41 : decode cX5_withNeeded 41 = .ok (.ireturn, 1) := by decide +kernel
theorem dX5_inputTargets_0 : decode cX5_inputTargets 0 = .ok (.iconst 0, 1) := by decide +kernel
theorem dX5_inputTargets_1 : decode cX5_inputTargets 1 = .ok (.istore_n 2, 1) := by decide +kernel
theorem dX5_inputTargets_2 : decode cX5_inputTargets 2 = .ok (.iconst 0, 1) := by decide +kernel
theorem dX5_inputTargets_3 : decode cX5_inputTargets 3 = .ok (.istore_n 3, 1) := by decide +kernel
theorem dX5_inputTargets_4 : decode cX5_inputTargets 4 = .ok (.iload_n 3, 1) := by decide +kernel
theorem dX5_inputTargets_5 : decode cX5_inputTargets 5 = .ok (.aload_n 1, 1) := by decide +kernel
theorem dX5_inputTargets_6 : decode cX5_inputTargets 6 = .ok (.getfield 56, 3) := by decide +kernel
theorem dX5_inputTargets_9 : decode cX5_inputTargets 9 = .ok (.getfield 59, 3) := by decide +kernel
theorem dX5_inputTargets_12 : decode cX5_inputTargets 12 = .ok (.if_icmp .ge 37, 3) := by decide +kernel
theorem dX5_inputTargets_15 : decode cX5_inputTargets 15 = .ok (.aload_n 1, 1) := by decide +kernel
theorem dX5_inputTargets_16 : decode cX5_inputTargets 16 = .ok (.getfield 56, 3) := by decide +kernel
theorem dX5_inputTargets_19 : decode cX5_inputTargets 19 = .ok (.iload_n 3, 1) := by decide +kernel
theorem dX5_inputTargets_20 : decode cX5_inputTargets 20 = .ok (.invokevirtual 62, 3) := by decide +kernel
theorem dX5_inputTargets_23 : decode cX5_inputTargets 23 = .ok (.istore 4, 2) := by decide +kernel
theorem dX5_inputTargets_25 : decode cX5_inputTargets 25 = .ok (.iload 4, 2) := by decide +kernel
theorem dX5_inputTargets_27 : decode cX5_inputTargets 27 = .ok (.invokestatic 66, 3) := by decide +kernel
theorem dX5_inputTargets_30 : decode cX5_inputTargets 30 = .ok (.ifCond .eq 13, 3) := by decide +kernel
theorem dX5_inputTargets_33 : decode cX5_inputTargets 33 = .ok (.iload_n 2, 1) := by decide +kernel
theorem dX5_inputTargets_34 : decode cX5_inputTargets 34 = .ok (.iconst 1, 1) := by decide +kernel
theorem dX5_inputTargets_35 : decode cX5_inputTargets 35 = .ok (.iload 4, 2) := by decide +kernel
theorem dX5_inputTargets_37 : decode cX5_inputTargets 37 = .ok (.bipush 16, 2) := by decide +kernel
theorem dX5_inputTargets_39 : decode cX5_inputTargets 39 = .ok (.isub, 1) := by decide +kernel
theorem dX5_inputTargets_40 : decode cX5_inputTargets 40 = .ok (.ishl, 1) := by decide +kernel
theorem dX5_inputTargets_41 : decode cX5_inputTargets 41 = .ok (.ior, 1) := by decide +kernel
theorem dX5_inputTargets_42 : decode cX5_inputTargets 42 = .ok (.istore_n 2, 1) := by decide +kernel
theorem dX5_inputTargets_43 : decode cX5_inputTargets 43 = .ok (.iinc 3 1, 3) := by decide +kernel
theorem dX5_inputTargets_46 : decode cX5_inputTargets 46 = .ok (.goto (-42), 3) := by decide +kernel
theorem dX5_inputTargets_49 : decode cX5_inputTargets 49 = .ok (.iload_n 2, 1) := by decide +kernel
theorem dX5_inputTargets_50 : decode cX5_inputTargets 50 = .ok (.ireturn, 1) := by decide +kernel
theorem dX5_targetsOver_0 : decode cX5_targetsOver 0 = .ok (.iload_n 1, 1) := by decide +kernel
theorem dX5_targetsOver_1 : decode cX5_targetsOver 1 = .ok (.invokestatic 66, 3) := by decide +kernel
theorem dX5_targetsOver_4 : decode cX5_targetsOver 4 = .ok (.ifCond .eq 12, 3) := by decide +kernel
theorem dX5_targetsOver_7 : decode cX5_targetsOver 7 = .ok (.iconst 1, 1) := by decide +kernel
theorem dX5_targetsOver_8 : decode cX5_targetsOver 8 = .ok (.iload_n 1, 1) := by decide +kernel
theorem dX5_targetsOver_9 : decode cX5_targetsOver 9 = .ok (.bipush 16, 2) := by decide +kernel
theorem dX5_targetsOver_11 : decode cX5_targetsOver 11 = .ok (.isub, 1) := by decide +kernel
theorem dX5_targetsOver_12 : decode cX5_targetsOver 12 = .ok (.ishl, 1) := by decide +kernel
theorem dX5_targetsOver_13 : decode cX5_targetsOver 13 = .ok (.goto 4, 3) := by decide +kernel
theorem dX5_targetsOver_16 : decode cX5_targetsOver 16 = .ok (.iconst 0, 1) := by decide +kernel
theorem dX5_targetsOver_17 : decode cX5_targetsOver 17 = .ok (.istore_n 2, 1) := by decide +kernel
theorem dX5_targetsOver_18 : decode cX5_targetsOver 18 = .ok (.iconst 0, 1) := by decide +kernel
theorem dX5_targetsOver_19 : decode cX5_targetsOver 19 = .ok (.istore_n 3, 1) := by decide +kernel
theorem dX5_targetsOver_20 : decode cX5_targetsOver 20 = .ok (.iload_n 3, 1) := by decide +kernel
theorem dX5_targetsOver_21 : decode cX5_targetsOver 21 = .ok (.aload_n 0, 1) := by decide +kernel
theorem dX5_targetsOver_22 : decode cX5_targetsOver 22 = .ok (.getfield 40, 3) := by decide +kernel
theorem dX5_targetsOver_25 : decode cX5_targetsOver 25 = .ok (.if_icmp .ge 43, 3) := by decide +kernel
theorem dX5_targetsOver_28 : decode cX5_targetsOver 28 = .ok (.aload_n 0, 1) := by decide +kernel
theorem dX5_targetsOver_29 : decode cX5_targetsOver 29 = .ok (.iload_n 3, 1) := by decide +kernel
theorem dX5_targetsOver_30 : decode cX5_targetsOver 30 = .ok (.invokevirtual 44, 3) := by decide +kernel
theorem dX5_targetsOver_33 : decode cX5_targetsOver 33 = .ok (.astore 4, 2) := by decide +kernel
theorem dX5_targetsOver_35 : decode cX5_targetsOver 35 = .ok (.aload_n 0, 1) := by decide +kernel
theorem dX5_targetsOver_36 : decode cX5_targetsOver 36 = .ok (.aload 4, 2) := by decide +kernel
theorem dX5_targetsOver_38 : decode cX5_targetsOver 38 = .ok (.invokevirtual 52, 3) := by decide +kernel
theorem dX5_targetsOver_41 : decode cX5_targetsOver 41 = .ok (.iload_n 2, 1) := by decide +kernel
theorem dX5_targetsOver_42 : decode cX5_targetsOver 42 = .ok (.iand, 1) := by decide +kernel
theorem dX5_targetsOver_43 : decode cX5_targetsOver 43 = .ok (.ifCond .ne 13, 3) := by decide +kernel
theorem dX5_targetsOver_46 : decode cX5_targetsOver 46 = .ok (.aload_n 0, 1) := by decide +kernel
theorem dX5_targetsOver_47 : decode cX5_targetsOver 47 = .ok (.aload 4, 2) := by decide +kernel
theorem dX5_targetsOver_49 : decode cX5_targetsOver 49 = .ok (.iload_n 1, 1) := by decide +kernel
theorem dX5_targetsOver_50 : decode cX5_targetsOver 50 = .ok (.invokevirtual 70, 3) := by decide +kernel
theorem dX5_targetsOver_53 : decode cX5_targetsOver 53 = .ok (.ifCond .eq 9, 3) := by decide +kernel
theorem dX5_targetsOver_56 : decode cX5_targetsOver 56 = .ok (.iload_n 2, 1) := by decide +kernel
theorem dX5_targetsOver_57 : decode cX5_targetsOver 57 = .ok (.iconst 1, 1) := by decide +kernel
theorem dX5_targetsOver_58 : decode cX5_targetsOver 58 = .ok (.iload_n 3, 1) := by decide +kernel
theorem dX5_targetsOver_59 : decode cX5_targetsOver 59 = .ok (.ishl, 1) := by decide +kernel
theorem dX5_targetsOver_60 : decode cX5_targetsOver 60 = .ok (.ior, 1) := by decide +kernel
theorem dX5_targetsOver_61 : decode cX5_targetsOver 61 = .ok (.istore_n 2, 1) := by decide +kernel
theorem dX5_targetsOver_62 : decode cX5_targetsOver 62 = .ok (.iinc 3 1, 3) := by decide +kernel
theorem dX5_targetsOver_65 : decode cX5_targetsOver 65 = .ok (.goto (-45), 3) := by decide +kernel
theorem dX5_targetsOver_68 : decode cX5_targetsOver 68 = .ok (.iload_n 2, 1) := by decide +kernel
theorem dX5_targetsOver_69 : decode cX5_targetsOver 69 = .ok (.ireturn, 1) := by decide +kernel
theorem dX5_hasInput_0 : decode cX5_hasInput 0 = .ok (.iconst 0, 1) := by decide +kernel
theorem dX5_hasInput_1 : decode cX5_hasInput 1 = .ok (.istore_n 3, 1) := by decide +kernel
theorem dX5_hasInput_2 : decode cX5_hasInput 2 = .ok (.iload_n 3, 1) := by decide +kernel
theorem dX5_hasInput_3 : decode cX5_hasInput 3 = .ok (.aload_n 1, 1) := by decide +kernel
theorem dX5_hasInput_4 : decode cX5_hasInput 4 = .ok (.getfield 56, 3) := by decide +kernel
theorem dX5_hasInput_7 : decode cX5_hasInput 7 = .ok (.getfield 59, 3) := by decide +kernel
theorem dX5_hasInput_10 : decode cX5_hasInput 10 = .ok (.if_icmp .ge 23, 3) := by decide +kernel
theorem dX5_hasInput_13 : decode cX5_hasInput 13 = .ok (.aload_n 1, 1) := by decide +kernel
theorem dX5_hasInput_14 : decode cX5_hasInput 14 = .ok (.getfield 56, 3) := by decide +kernel
theorem dX5_hasInput_17 : decode cX5_hasInput 17 = .ok (.iload_n 3, 1) := by decide +kernel
theorem dX5_hasInput_18 : decode cX5_hasInput 18 = .ok (.invokevirtual 62, 3) := by decide +kernel
theorem dX5_hasInput_21 : decode cX5_hasInput 21 = .ok (.iload_n 2, 1) := by decide +kernel
theorem dX5_hasInput_22 : decode cX5_hasInput 22 = .ok (.if_icmp .ne 5, 3) := by decide +kernel
theorem dX5_hasInput_25 : decode cX5_hasInput 25 = .ok (.iconst 1, 1) := by decide +kernel
theorem dX5_hasInput_26 : decode cX5_hasInput 26 = .ok (.ireturn, 1) := by decide +kernel
theorem dX5_hasInput_27 : decode cX5_hasInput 27 = .ok (.iinc 3 1, 3) := by decide +kernel
theorem dX5_hasInput_30 : decode cX5_hasInput 30 = .ok (.goto (-28), 3) := by decide +kernel
theorem dX5_hasInput_33 : decode cX5_hasInput 33 = .ok (.iconst 0, 1) := by decide +kernel
theorem dX5_hasInput_34 : decode cX5_hasInput 34 = .ok (.ireturn, 1) := by decide +kernel
theorem dX5_distance_0 : decode cX5_distance 0 = .ok (.iconst 0, 1) := by decide +kernel
theorem dX5_distance_1 : decode cX5_distance 1 = .ok (.istore_n 3, 1) := by decide +kernel
theorem dX5_distance_2 : decode cX5_distance 2 = .ok (.iload_n 3, 1) := by decide +kernel
theorem dX5_distance_3 : decode cX5_distance 3 = .ok (.bipush 14, 2) := by decide +kernel
theorem dX5_distance_5 : decode cX5_distance 5 = .ok (.if_icmp .ge 27, 3) := by decide +kernel
theorem dX5_distance_8 : decode cX5_distance 8 = .ok (.aload_n 0, 1) := by decide +kernel
theorem dX5_distance_9 : decode cX5_distance 9 = .ok (.getfield 21, 3) := by decide +kernel
theorem dX5_distance_12 : decode cX5_distance 12 = .ok (.iload_n 3, 1) := by decide +kernel
theorem dX5_distance_13 : decode cX5_distance 13 = .ok (.iload_n 3, 1) := by decide +kernel
theorem dX5_distance_14 : decode cX5_distance 14 = .ok (.iload_n 1, 1) := by decide +kernel
theorem dX5_distance_15 : decode cX5_distance 15 = .ok (.if_icmp .ne 7, 3) := by decide +kernel
theorem dX5_distance_18 : decode cX5_distance 18 = .ok (.iconst 0, 1) := by decide +kernel
theorem dX5_distance_19 : decode cX5_distance 19 = .ok (.goto 4, 3) := by decide +kernel
theorem dX5_distance_22 : decode cX5_distance 22 = .ok (.iconst (-1), 1) := by decide +kernel
theorem dX5_distance_23 : decode cX5_distance 23 = .ok (.invokestatic 74, 3) := by decide +kernel
theorem dX5_distance_26 : decode cX5_distance 26 = .ok (.iinc 3 1, 3) := by decide +kernel
theorem dX5_distance_29 : decode cX5_distance 29 = .ok (.goto (-27), 3) := by decide +kernel
theorem dX5_distance_32 : decode cX5_distance 32 = .ok (.iload_n 1, 1) := by decide +kernel
theorem dX5_distance_33 : decode cX5_distance 33 = .ok (.istore_n 3, 1) := by decide +kernel
theorem dX5_distance_34 : decode cX5_distance 34 = .ok (.iload_n 3, 1) := by decide +kernel
theorem dX5_distance_35 : decode cX5_distance 35 = .ok (.iload_n 2, 1) := by decide +kernel
theorem dX5_distance_36 : decode cX5_distance 36 = .ok (.if_icmp .le 30, 3) := by decide +kernel
theorem dX5_distance_39 : decode cX5_distance 39 = .ok (.aload_n 0, 1) := by decide +kernel
theorem dX5_distance_40 : decode cX5_distance 40 = .ok (.getfield 21, 3) := by decide +kernel
theorem dX5_distance_43 : decode cX5_distance 43 = .ok (.iload_n 3, 1) := by decide +kernel
theorem dX5_distance_44 : decode cX5_distance 44 = .ok (.invokestatic 78, 3) := by decide +kernel
theorem dX5_distance_47 : decode cX5_distance 47 = .ok (.iconst (-1), 1) := by decide +kernel
theorem dX5_distance_48 : decode cX5_distance 48 = .ok (.if_icmp .eq 12, 3) := by decide +kernel
theorem dX5_distance_51 : decode cX5_distance 51 = .ok (.aload_n 0, 1) := by decide +kernel
theorem dX5_distance_52 : decode cX5_distance 52 = .ok (.aload_n 0, 1) := by decide +kernel
theorem dX5_distance_53 : decode cX5_distance 53 = .ok (.iload_n 3, 1) := by decide +kernel
theorem dX5_distance_54 : decode cX5_distance 54 = .ok (.invokevirtual 44, 3) := by decide +kernel
theorem dX5_distance_57 : decode cX5_distance 57 = .ok (.invokevirtual 82, 3) := by decide +kernel
theorem dX5_distance_60 : decode cX5_distance 60 = .ok (.iinc 3 (-1), 3) := by decide +kernel
theorem dX5_distance_63 : decode cX5_distance 63 = .ok (.goto (-29), 3) := by decide +kernel
theorem dX5_distance_66 : decode cX5_distance 66 = .ok (.aload_n 0, 1) := by decide +kernel
theorem dX5_distance_67 : decode cX5_distance 67 = .ok (.getfield 21, 3) := by decide +kernel
theorem dX5_distance_70 : decode cX5_distance 70 = .ok (.iload_n 2, 1) := by decide +kernel
theorem dX5_distance_71 : decode cX5_distance 71 = .ok (.invokestatic 78, 3) := by decide +kernel
theorem dX5_distance_74 : decode cX5_distance 74 = .ok (.ireturn, 1) := by decide +kernel
theorem dX5_spreadDistance_0 : decode cX5_spreadDistance 0 = .ok (.aload_n 0, 1) := by decide +kernel
theorem dX5_spreadDistance_1 : decode cX5_spreadDistance 1 = .ok (.getfield 21, 3) := by decide +kernel
theorem dX5_spreadDistance_4 : decode cX5_spreadDistance 4 = .ok (.aload_n 1, 1) := by decide +kernel
theorem dX5_spreadDistance_5 : decode cX5_spreadDistance 5 = .ok (.getfield 86, 3) := by decide +kernel
theorem dX5_spreadDistance_8 : decode cX5_spreadDistance 8 = .ok (.invokestatic 78, 3) := by decide +kernel
theorem dX5_spreadDistance_11 : decode cX5_spreadDistance 11 = .ok (.iconst 1, 1) := by decide +kernel
theorem dX5_spreadDistance_12 : decode cX5_spreadDistance 12 = .ok (.iadd, 1) := by decide +kernel
theorem dX5_spreadDistance_13 : decode cX5_spreadDistance 13 = .ok (.istore_n 2, 1) := by decide +kernel
theorem dX5_spreadDistance_14 : decode cX5_spreadDistance 14 = .ok (.iconst 0, 1) := by decide +kernel
theorem dX5_spreadDistance_15 : decode cX5_spreadDistance 15 = .ok (.istore_n 3, 1) := by decide +kernel
theorem dX5_spreadDistance_16 : decode cX5_spreadDistance 16 = .ok (.iload_n 3, 1) := by decide +kernel
theorem dX5_spreadDistance_17 : decode cX5_spreadDistance 17 = .ok (.aload_n 1, 1) := by decide +kernel
theorem dX5_spreadDistance_18 : decode cX5_spreadDistance 18 = .ok (.getfield 56, 3) := by decide +kernel
theorem dX5_spreadDistance_21 : decode cX5_spreadDistance 21 = .ok (.getfield 59, 3) := by decide +kernel
theorem dX5_spreadDistance_24 : decode cX5_spreadDistance 24 = .ok (.if_icmp .ge 55, 3) := by decide +kernel
theorem dX5_spreadDistance_27 : decode cX5_spreadDistance 27 = .ok (.aload_n 1, 1) := by decide +kernel
theorem dX5_spreadDistance_28 : decode cX5_spreadDistance 28 = .ok (.getfield 56, 3) := by decide +kernel
theorem dX5_spreadDistance_31 : decode cX5_spreadDistance 31 = .ok (.iload_n 3, 1) := by decide +kernel
theorem dX5_spreadDistance_32 : decode cX5_spreadDistance 32 = .ok (.invokevirtual 62, 3) := by decide +kernel
theorem dX5_spreadDistance_35 : decode cX5_spreadDistance 35 = .ok (.bipush 16, 2) := by decide +kernel
theorem dX5_spreadDistance_37 : decode cX5_spreadDistance 37 = .ok (.isub, 1) := by decide +kernel
theorem dX5_spreadDistance_38 : decode cX5_spreadDistance 38 = .ok (.istore 4, 2) := by decide +kernel
theorem dX5_spreadDistance_40 : decode cX5_spreadDistance 40 = .ok (.aload_n 0, 1) := by decide +kernel
theorem dX5_spreadDistance_41 : decode cX5_spreadDistance 41 = .ok (.getfield 21, 3) := by decide +kernel
theorem dX5_spreadDistance_44 : decode cX5_spreadDistance 44 = .ok (.iload 4, 2) := by decide +kernel
theorem dX5_spreadDistance_46 : decode cX5_spreadDistance 46 = .ok (.invokestatic 78, 3) := by decide +kernel
theorem dX5_spreadDistance_49 : decode cX5_spreadDistance 49 = .ok (.istore 5, 2) := by decide +kernel
theorem dX5_spreadDistance_51 : decode cX5_spreadDistance 51 = .ok (.iload 5, 2) := by decide +kernel
theorem dX5_spreadDistance_53 : decode cX5_spreadDistance 53 = .ok (.iconst (-1), 1) := by decide +kernel
theorem dX5_spreadDistance_54 : decode cX5_spreadDistance 54 = .ok (.if_icmp .eq 9, 3) := by decide +kernel
theorem dX5_spreadDistance_57 : decode cX5_spreadDistance 57 = .ok (.iload 5, 2) := by decide +kernel
theorem dX5_spreadDistance_59 : decode cX5_spreadDistance 59 = .ok (.iload_n 2, 1) := by decide +kernel
theorem dX5_spreadDistance_60 : decode cX5_spreadDistance 60 = .ok (.if_icmp .le 13, 3) := by decide +kernel
theorem dX5_spreadDistance_63 : decode cX5_spreadDistance 63 = .ok (.aload_n 0, 1) := by decide +kernel
theorem dX5_spreadDistance_64 : decode cX5_spreadDistance 64 = .ok (.getfield 21, 3) := by decide +kernel
theorem dX5_spreadDistance_67 : decode cX5_spreadDistance 67 = .ok (.iload 4, 2) := by decide +kernel
theorem dX5_spreadDistance_69 : decode cX5_spreadDistance 69 = .ok (.iload_n 2, 1) := by decide +kernel
theorem dX5_spreadDistance_70 : decode cX5_spreadDistance 70 = .ok (.invokestatic 74, 3) := by decide +kernel
theorem dX5_spreadDistance_73 : decode cX5_spreadDistance 73 = .ok (.iinc 3 1, 3) := by decide +kernel
theorem dX5_spreadDistance_76 : decode cX5_spreadDistance 76 = .ok (.goto (-60), 3) := by decide +kernel
theorem dX5_spreadDistance_79 : decode cX5_spreadDistance 79 = .ok (.return_, 1) := by decide +kernel
theorem dX5_findWays_0 : decode cX5_findWays 0 = .ok (.iconst 0, 1) := by decide +kernel
theorem dX5_findWays_1 : decode cX5_findWays 1 = .ok (.istore_n 2, 1) := by decide +kernel
theorem dX5_findWays_2 : decode cX5_findWays 2 = .ok (.iload_n 2, 1) := by decide +kernel
theorem dX5_findWays_3 : decode cX5_findWays 3 = .ok (.aload_n 0, 1) := by decide +kernel
theorem dX5_findWays_4 : decode cX5_findWays 4 = .ok (.getfield 40, 3) := by decide +kernel
theorem dX5_findWays_7 : decode cX5_findWays 7 = .ok (.if_icmp .ge 18, 3) := by decide +kernel
theorem dX5_findWays_10 : decode cX5_findWays 10 = .ok (.aload_n 0, 1) := by decide +kernel
theorem dX5_findWays_11 : decode cX5_findWays 11 = .ok (.iload_n 2, 1) := by decide +kernel
theorem dX5_findWays_12 : decode cX5_findWays 12 = .ok (.invokevirtual 44, 3) := by decide +kernel
theorem dX5_findWays_15 : decode cX5_findWays 15 = .ok (.iconst 0, 1) := by decide +kernel
theorem dX5_findWays_16 : decode cX5_findWays 16 = .ok (.putfield 89, 3) := by decide +kernel
theorem dX5_findWays_19 : decode cX5_findWays 19 = .ok (.iinc 2 1, 3) := by decide +kernel
theorem dX5_findWays_22 : decode cX5_findWays 22 = .ok (.goto (-20), 3) := by decide +kernel
theorem dX5_findWays_25 : decode cX5_findWays 25 = .ok (.aload_n 0, 1) := by decide +kernel
theorem dX5_findWays_26 : decode cX5_findWays 26 = .ok (.getfield 40, 3) := by decide +kernel
theorem dX5_findWays_29 : decode cX5_findWays 29 = .ok (.iconst 1, 1) := by decide +kernel
theorem dX5_findWays_30 : decode cX5_findWays 30 = .ok (.isub, 1) := by decide +kernel
theorem dX5_findWays_31 : decode cX5_findWays 31 = .ok (.istore_n 2, 1) := by decide +kernel
theorem dX5_findWays_32 : decode cX5_findWays 32 = .ok (.iload_n 2, 1) := by decide +kernel
theorem dX5_findWays_33 : decode cX5_findWays 33 = .ok (.ifCond .lt 42, 3) := by decide +kernel
theorem dX5_findWays_36 : decode cX5_findWays 36 = .ok (.iload_n 1, 1) := by decide +kernel
theorem dX5_findWays_37 : decode cX5_findWays 37 = .ok (.iload_n 2, 1) := by decide +kernel
theorem dX5_findWays_38 : decode cX5_findWays 38 = .ok (.invokestatic 48, 3) := by decide +kernel
theorem dX5_findWays_41 : decode cX5_findWays 41 = .ok (.iconst 1, 1) := by decide +kernel
theorem dX5_findWays_42 : decode cX5_findWays 42 = .ok (.if_icmp .ne 27, 3) := by decide +kernel
theorem dX5_findWays_45 : decode cX5_findWays 45 = .ok (.aload_n 0, 1) := by decide +kernel
theorem dX5_findWays_46 : decode cX5_findWays 46 = .ok (.iload_n 2, 1) := by decide +kernel
theorem dX5_findWays_47 : decode cX5_findWays 47 = .ok (.invokevirtual 44, 3) := by decide +kernel
theorem dX5_findWays_50 : decode cX5_findWays 50 = .ok (.astore_n 3, 1) := by decide +kernel
theorem dX5_findWays_51 : decode cX5_findWays 51 = .ok (.aload_n 3, 1) := by decide +kernel
theorem dX5_findWays_52 : decode cX5_findWays 52 = .ok (.dup, 1) := by decide +kernel
theorem dX5_findWays_53 : decode cX5_findWays 53 = .ok (.getfield 89, 3) := by decide +kernel
theorem dX5_findWays_56 : decode cX5_findWays 56 = .ok (.aload_n 3, 1) := by decide +kernel
theorem dX5_findWays_57 : decode cX5_findWays 57 = .ok (.getfield 92, 3) := by decide +kernel
theorem dX5_findWays_60 : decode cX5_findWays 60 = .ok (.iadd, 1) := by decide +kernel
theorem dX5_findWays_61 : decode cX5_findWays 61 = .ok (.putfield 89, 3) := by decide +kernel
theorem dX5_findWays_64 : decode cX5_findWays 64 = .ok (.aload_n 0, 1) := by decide +kernel
theorem dX5_findWays_65 : decode cX5_findWays 65 = .ok (.aload_n 3, 1) := by decide +kernel
theorem dX5_findWays_66 : decode cX5_findWays 66 = .ok (.invokevirtual 95, 3) := by decide +kernel
theorem dX5_findWays_69 : decode cX5_findWays 69 = .ok (.iinc 2 (-1), 3) := by decide +kernel
theorem dX5_findWays_72 : decode cX5_findWays 72 = .ok (.goto (-40), 3) := by decide +kernel
theorem dX5_findWays_75 : decode cX5_findWays 75 = .ok (.return_, 1) := by decide +kernel
theorem dX5_spreadWay_0 : decode cX5_spreadWay 0 = .ok (.iconst 0, 1) := by decide +kernel
theorem dX5_spreadWay_1 : decode cX5_spreadWay 1 = .ok (.istore_n 2, 1) := by decide +kernel
theorem dX5_spreadWay_2 : decode cX5_spreadWay 2 = .ok (.iload_n 2, 1) := by decide +kernel
theorem dX5_spreadWay_3 : decode cX5_spreadWay 3 = .ok (.aload_n 1, 1) := by decide +kernel
theorem dX5_spreadWay_4 : decode cX5_spreadWay 4 = .ok (.getfield 56, 3) := by decide +kernel
theorem dX5_spreadWay_7 : decode cX5_spreadWay 7 = .ok (.getfield 59, 3) := by decide +kernel
theorem dX5_spreadWay_10 : decode cX5_spreadWay 10 = .ok (.if_icmp .ge 40, 3) := by decide +kernel
theorem dX5_spreadWay_13 : decode cX5_spreadWay 13 = .ok (.aload_n 0, 1) := by decide +kernel
theorem dX5_spreadWay_14 : decode cX5_spreadWay 14 = .ok (.aload_n 1, 1) := by decide +kernel
theorem dX5_spreadWay_15 : decode cX5_spreadWay 15 = .ok (.getfield 56, 3) := by decide +kernel
theorem dX5_spreadWay_18 : decode cX5_spreadWay 18 = .ok (.iload_n 2, 1) := by decide +kernel
theorem dX5_spreadWay_19 : decode cX5_spreadWay 19 = .ok (.invokevirtual 62, 3) := by decide +kernel
theorem dX5_spreadWay_22 : decode cX5_spreadWay 22 = .ok (.bipush 16, 2) := by decide +kernel
theorem dX5_spreadWay_24 : decode cX5_spreadWay 24 = .ok (.isub, 1) := by decide +kernel
theorem dX5_spreadWay_25 : decode cX5_spreadWay 25 = .ok (.invokevirtual 44, 3) := by decide +kernel
theorem dX5_spreadWay_28 : decode cX5_spreadWay 28 = .ok (.astore_n 3, 1) := by decide +kernel
theorem dX5_spreadWay_29 : decode cX5_spreadWay 29 = .ok (.aload_n 3, 1) := by decide +kernel
theorem dX5_spreadWay_30 : decode cX5_spreadWay 30 = .ok (.aload_n 3, 1) := by decide +kernel
theorem dX5_spreadWay_31 : decode cX5_spreadWay 31 = .ok (.getfield 89, 3) := by decide +kernel
theorem dX5_spreadWay_34 : decode cX5_spreadWay 34 = .ok (.aload_n 1, 1) := by decide +kernel
theorem dX5_spreadWay_35 : decode cX5_spreadWay 35 = .ok (.getfield 89, 3) := by decide +kernel
theorem dX5_spreadWay_38 : decode cX5_spreadWay 38 = .ok (.invokestatic 98, 3) := by decide +kernel
theorem dX5_spreadWay_41 : decode cX5_spreadWay 41 = .ok (.putfield 89, 3) := by decide +kernel
theorem dX5_spreadWay_44 : decode cX5_spreadWay 44 = .ok (.iinc 2 1, 3) := by decide +kernel
theorem dX5_spreadWay_47 : decode cX5_spreadWay 47 = .ok (.goto (-45), 3) := by decide +kernel
theorem dX5_spreadWay_50 : decode cX5_spreadWay 50 = .ok (.return_, 1) := by decide +kernel
theorem dX5_isAllDone_0 : decode cX5_isAllDone 0 = .ok (.iconst 0, 1) := by decide +kernel
theorem dX5_isAllDone_1 : decode cX5_isAllDone 1 = .ok (.istore_n 2, 1) := by decide +kernel
theorem dX5_isAllDone_2 : decode cX5_isAllDone 2 = .ok (.iload_n 2, 1) := by decide +kernel
theorem dX5_isAllDone_3 : decode cX5_isAllDone 3 = .ok (.aload_n 0, 1) := by decide +kernel
theorem dX5_isAllDone_4 : decode cX5_isAllDone 4 = .ok (.getfield 40, 3) := by decide +kernel
theorem dX5_isAllDone_7 : decode cX5_isAllDone 7 = .ok (.if_icmp .ge 31, 3) := by decide +kernel
theorem dX5_isAllDone_10 : decode cX5_isAllDone 10 = .ok (.iload_n 1, 1) := by decide +kernel
theorem dX5_isAllDone_11 : decode cX5_isAllDone 11 = .ok (.iload_n 2, 1) := by decide +kernel
theorem dX5_isAllDone_12 : decode cX5_isAllDone 12 = .ok (.invokestatic 48, 3) := by decide +kernel
theorem dX5_isAllDone_15 : decode cX5_isAllDone 15 = .ok (.iconst 1, 1) := by decide +kernel
theorem dX5_isAllDone_16 : decode cX5_isAllDone 16 = .ok (.if_icmp .ne 16, 3) := by decide +kernel
theorem dX5_isAllDone_19 : decode cX5_isAllDone 19 = .ok (.aload_n 0, 1) := by decide +kernel
theorem dX5_isAllDone_20 : decode cX5_isAllDone 20 = .ok (.iload_n 2, 1) := by decide +kernel
theorem dX5_isAllDone_21 : decode cX5_isAllDone 21 = .ok (.invokevirtual 44, 3) := by decide +kernel
theorem dX5_isAllDone_24 : decode cX5_isAllDone 24 = .ok (.invokevirtual 103, 3) := by decide +kernel
theorem dX5_isAllDone_27 : decode cX5_isAllDone 27 = .ok (.ifCond .ne 5, 3) := by decide +kernel
theorem dX5_isAllDone_30 : decode cX5_isAllDone 30 = .ok (.iconst 0, 1) := by decide +kernel
theorem dX5_isAllDone_31 : decode cX5_isAllDone 31 = .ok (.ireturn, 1) := by decide +kernel
theorem dX5_isAllDone_32 : decode cX5_isAllDone 32 = .ok (.iinc 2 1, 3) := by decide +kernel
theorem dX5_isAllDone_35 : decode cX5_isAllDone 35 = .ok (.goto (-33), 3) := by decide +kernel
theorem dX5_isAllDone_38 : decode cX5_isAllDone 38 = .ok (.iconst 1, 1) := by decide +kernel
theorem dX5_isAllDone_39 : decode cX5_isAllDone 39 = .ok (.ireturn, 1) := by decide +kernel
theorem dX5_soundTargets_0 : decode cX5_soundTargets 0 = .ok (.iconst 0, 1) := by decide +kernel
theorem dX5_soundTargets_1 : decode cX5_soundTargets 1 = .ok (.istore_n 1, 1) := by decide +kernel
theorem dX5_soundTargets_2 : decode cX5_soundTargets 2 = .ok (.iconst 0, 1) := by decide +kernel
theorem dX5_soundTargets_3 : decode cX5_soundTargets 3 = .ok (.istore_n 2, 1) := by decide +kernel
theorem dX5_soundTargets_4 : decode cX5_soundTargets 4 = .ok (.iload_n 2, 1) := by decide +kernel
theorem dX5_soundTargets_5 : decode cX5_soundTargets 5 = .ok (.aload_n 0, 1) := by decide +kernel
theorem dX5_soundTargets_6 : decode cX5_soundTargets 6 = .ok (.getfield 40, 3) := by decide +kernel
theorem dX5_soundTargets_9 : decode cX5_soundTargets 9 = .ok (.if_icmp .ge 40, 3) := by decide +kernel
theorem dX5_soundTargets_12 : decode cX5_soundTargets 12 = .ok (.aload_n 0, 1) := by decide +kernel
theorem dX5_soundTargets_13 : decode cX5_soundTargets 13 = .ok (.iload_n 2, 1) := by decide +kernel
theorem dX5_soundTargets_14 : decode cX5_soundTargets 14 = .ok (.invokevirtual 44, 3) := by decide +kernel
theorem dX5_soundTargets_17 : decode cX5_soundTargets 17 = .ok (.astore_n 3, 1) := by decide +kernel
theorem dX5_soundTargets_18 : decode cX5_soundTargets 18 = .ok (.aload_n 3, 1) := by decide +kernel
theorem dX5_soundTargets_19 : decode cX5_soundTargets 19 = .ok (.invokevirtual 107, 3) := by decide +kernel
theorem dX5_soundTargets_22 : decode cX5_soundTargets 22 = .ok (.ifCond .eq 21, 3) := by decide +kernel
theorem dX5_soundTargets_25 : decode cX5_soundTargets 25 = .ok (.aload_n 0, 1) := by decide +kernel
theorem dX5_soundTargets_26 : decode cX5_soundTargets 26 = .ok (.aload_n 3, 1) := by decide +kernel
theorem dX5_soundTargets_27 : decode cX5_soundTargets 27 = .ok (.invokevirtual 52, 3) := by decide +kernel
theorem dX5_soundTargets_30 : decode cX5_soundTargets 30 = .ok (.iload_n 1, 1) := by decide +kernel
theorem dX5_soundTargets_31 : decode cX5_soundTargets 31 = .ok (.iconst (-1), 1) := by decide +kernel
theorem dX5_soundTargets_32 : decode cX5_soundTargets 32 = .ok (.ixor, 1) := by decide +kernel
theorem dX5_soundTargets_33 : decode cX5_soundTargets 33 = .ok (.iand, 1) := by decide +kernel
theorem dX5_soundTargets_34 : decode cX5_soundTargets 34 = .ok (.ifCond .ne 9, 3) := by decide +kernel
theorem dX5_soundTargets_37 : decode cX5_soundTargets 37 = .ok (.iload_n 1, 1) := by decide +kernel
theorem dX5_soundTargets_38 : decode cX5_soundTargets 38 = .ok (.iconst 1, 1) := by decide +kernel
theorem dX5_soundTargets_39 : decode cX5_soundTargets 39 = .ok (.iload_n 2, 1) := by decide +kernel
theorem dX5_soundTargets_40 : decode cX5_soundTargets 40 = .ok (.ishl, 1) := by decide +kernel
theorem dX5_soundTargets_41 : decode cX5_soundTargets 41 = .ok (.ior, 1) := by decide +kernel
theorem dX5_soundTargets_42 : decode cX5_soundTargets 42 = .ok (.istore_n 1, 1) := by decide +kernel
theorem dX5_soundTargets_43 : decode cX5_soundTargets 43 = .ok (.iinc 2 1, 3) := by decide +kernel
theorem dX5_soundTargets_46 : decode cX5_soundTargets 46 = .ok (.goto (-42), 3) := by decide +kernel
theorem dX5_soundTargets_49 : decode cX5_soundTargets 49 = .ok (.iload_n 1, 1) := by decide +kernel
theorem dX5_soundTargets_50 : decode cX5_soundTargets 50 = .ok (.ireturn, 1) := by decide +kernel
theorem dX5_proofOf_0 : decode cX5_proofOf 0 = .ok (.iconst 0, 1) := by decide +kernel
theorem dX5_proofOf_1 : decode cX5_proofOf 1 = .ok (.istore_n 2, 1) := by decide +kernel
theorem dX5_proofOf_2 : decode cX5_proofOf 2 = .ok (.iload_n 2, 1) := by decide +kernel
theorem dX5_proofOf_3 : decode cX5_proofOf 3 = .ok (.iload_n 1, 1) := by decide +kernel
theorem dX5_proofOf_4 : decode cX5_proofOf 4 = .ok (.if_icmp .gt 26, 3) := by decide +kernel
theorem dX5_proofOf_7 : decode cX5_proofOf 7 = .ok (.aload_n 0, 1) := by decide +kernel
theorem dX5_proofOf_8 : decode cX5_proofOf 8 = .ok (.getfield 17, 3) := by decide +kernel
theorem dX5_proofOf_11 : decode cX5_proofOf 11 = .ok (.iload_n 2, 1) := by decide +kernel
theorem dX5_proofOf_12 : decode cX5_proofOf 12 = .ok (.aload_n 0, 1) := by decide +kernel
theorem dX5_proofOf_13 : decode cX5_proofOf 13 = .ok (.aload_n 0, 1) := by decide +kernel
theorem dX5_proofOf_14 : decode cX5_proofOf 14 = .ok (.iload_n 2, 1) := by decide +kernel
theorem dX5_proofOf_15 : decode cX5_proofOf 15 = .ok (.invokevirtual 44, 3) := by decide +kernel
theorem dX5_proofOf_18 : decode cX5_proofOf 18 = .ok (.invokevirtual 110, 3) := by decide +kernel
theorem dX5_proofOf_21 : decode cX5_proofOf 21 = .ok (.invokestatic 74, 3) := by decide +kernel
theorem dX5_proofOf_24 : decode cX5_proofOf 24 = .ok (.iinc 2 1, 3) := by decide +kernel
theorem dX5_proofOf_27 : decode cX5_proofOf 27 = .ok (.goto (-25), 3) := by decide +kernel
theorem dX5_proofOf_30 : decode cX5_proofOf 30 = .ok (.aload_n 0, 1) := by decide +kernel
theorem dX5_proofOf_31 : decode cX5_proofOf 31 = .ok (.getfield 17, 3) := by decide +kernel
theorem dX5_proofOf_34 : decode cX5_proofOf 34 = .ok (.iload_n 1, 1) := by decide +kernel
theorem dX5_proofOf_35 : decode cX5_proofOf 35 = .ok (.invokestatic 78, 3) := by decide +kernel
theorem dX5_proofOf_38 : decode cX5_proofOf 38 = .ok (.ireturn, 1) := by decide +kernel
theorem dX5_proofOverInputs_0 : decode cX5_proofOverInputs 0 = .ok (.bipush 7, 2) := by decide +kernel
theorem dX5_proofOverInputs_2 : decode cX5_proofOverInputs 2 = .ok (.istore_n 2, 1) := by decide +kernel
theorem dX5_proofOverInputs_3 : decode cX5_proofOverInputs 3 = .ok (.iconst 0, 1) := by decide +kernel
theorem dX5_proofOverInputs_4 : decode cX5_proofOverInputs 4 = .ok (.istore_n 3, 1) := by decide +kernel
theorem dX5_proofOverInputs_5 : decode cX5_proofOverInputs 5 = .ok (.iload_n 3, 1) := by decide +kernel
theorem dX5_proofOverInputs_6 : decode cX5_proofOverInputs 6 = .ok (.aload_n 1, 1) := by decide +kernel
theorem dX5_proofOverInputs_7 : decode cX5_proofOverInputs 7 = .ok (.getfield 113, 3) := by decide +kernel
theorem dX5_proofOverInputs_10 : decode cX5_proofOverInputs 10 = .ok (.if_icmp .ge 34, 3) := by decide +kernel
theorem dX5_proofOverInputs_13 : decode cX5_proofOverInputs 13 = .ok (.aload_n 1, 1) := by decide +kernel
theorem dX5_proofOverInputs_14 : decode cX5_proofOverInputs 14 = .ok (.iload_n 3, 1) := by decide +kernel
theorem dX5_proofOverInputs_15 : decode cX5_proofOverInputs 15 = .ok (.invokevirtual 116, 3) := by decide +kernel
theorem dX5_proofOverInputs_18 : decode cX5_proofOverInputs 18 = .ok (.astore 4, 2) := by decide +kernel
theorem dX5_proofOverInputs_20 : decode cX5_proofOverInputs 20 = .ok (.iload_n 2, 1) := by decide +kernel
theorem dX5_proofOverInputs_21 : decode cX5_proofOverInputs 21 = .ok (.aload 4, 2) := by decide +kernel
theorem dX5_proofOverInputs_23 : decode cX5_proofOverInputs 23 = .ok (.getfield 120, 3) := by decide +kernel
theorem dX5_proofOverInputs_26 : decode cX5_proofOverInputs 26 = .ok (.invokestatic 125, 3) := by decide +kernel
theorem dX5_proofOverInputs_29 : decode cX5_proofOverInputs 29 = .ok (.aload 4, 2) := by decide +kernel
theorem dX5_proofOverInputs_31 : decode cX5_proofOverInputs 31 = .ok (.getfield 128, 3) := by decide +kernel
theorem dX5_proofOverInputs_34 : decode cX5_proofOverInputs 34 = .ok (.invokestatic 125, 3) := by decide +kernel
theorem dX5_proofOverInputs_37 : decode cX5_proofOverInputs 37 = .ok (.istore_n 2, 1) := by decide +kernel
theorem dX5_proofOverInputs_38 : decode cX5_proofOverInputs 38 = .ok (.iinc 3 1, 3) := by decide +kernel
theorem dX5_proofOverInputs_41 : decode cX5_proofOverInputs 41 = .ok (.goto (-36), 3) := by decide +kernel
theorem dX5_proofOverInputs_44 : decode cX5_proofOverInputs 44 = .ok (.iconst 0, 1) := by decide +kernel
theorem dX5_proofOverInputs_45 : decode cX5_proofOverInputs 45 = .ok (.istore_n 3, 1) := by decide +kernel
theorem dX5_proofOverInputs_46 : decode cX5_proofOverInputs 46 = .ok (.iload_n 3, 1) := by decide +kernel
theorem dX5_proofOverInputs_47 : decode cX5_proofOverInputs 47 = .ok (.aload_n 1, 1) := by decide +kernel
theorem dX5_proofOverInputs_48 : decode cX5_proofOverInputs 48 = .ok (.getfield 56, 3) := by decide +kernel
theorem dX5_proofOverInputs_51 : decode cX5_proofOverInputs 51 = .ok (.getfield 59, 3) := by decide +kernel
theorem dX5_proofOverInputs_54 : decode cX5_proofOverInputs 54 = .ok (.if_icmp .ge 44, 3) := by decide +kernel
theorem dX5_proofOverInputs_57 : decode cX5_proofOverInputs 57 = .ok (.aload_n 1, 1) := by decide +kernel
theorem dX5_proofOverInputs_58 : decode cX5_proofOverInputs 58 = .ok (.getfield 56, 3) := by decide +kernel
theorem dX5_proofOverInputs_61 : decode cX5_proofOverInputs 61 = .ok (.iload_n 3, 1) := by decide +kernel
theorem dX5_proofOverInputs_62 : decode cX5_proofOverInputs 62 = .ok (.invokevirtual 62, 3) := by decide +kernel
theorem dX5_proofOverInputs_65 : decode cX5_proofOverInputs 65 = .ok (.istore 4, 2) := by decide +kernel
theorem dX5_proofOverInputs_67 : decode cX5_proofOverInputs 67 = .ok (.iload 4, 2) := by decide +kernel
theorem dX5_proofOverInputs_69 : decode cX5_proofOverInputs 69 = .ok (.invokestatic 66, 3) := by decide +kernel
theorem dX5_proofOverInputs_72 : decode cX5_proofOverInputs 72 = .ok (.ifCond .eq 20, 3) := by decide +kernel
theorem dX5_proofOverInputs_75 : decode cX5_proofOverInputs 75 = .ok (.iload_n 2, 1) := by decide +kernel
theorem dX5_proofOverInputs_76 : decode cX5_proofOverInputs 76 = .ok (.aload_n 0, 1) := by decide +kernel
theorem dX5_proofOverInputs_77 : decode cX5_proofOverInputs 77 = .ok (.getfield 17, 3) := by decide +kernel
theorem dX5_proofOverInputs_80 : decode cX5_proofOverInputs 80 = .ok (.iload 4, 2) := by decide +kernel
theorem dX5_proofOverInputs_82 : decode cX5_proofOverInputs 82 = .ok (.bipush 16, 2) := by decide +kernel
theorem dX5_proofOverInputs_84 : decode cX5_proofOverInputs 84 = .ok (.isub, 1) := by decide +kernel
theorem dX5_proofOverInputs_85 : decode cX5_proofOverInputs 85 = .ok (.invokestatic 78, 3) := by decide +kernel
theorem dX5_proofOverInputs_88 : decode cX5_proofOverInputs 88 = .ok (.invokestatic 125, 3) := by decide +kernel
theorem dX5_proofOverInputs_91 : decode cX5_proofOverInputs 91 = .ok (.istore_n 2, 1) := by decide +kernel
theorem dX5_proofOverInputs_92 : decode cX5_proofOverInputs 92 = .ok (.iinc 3 1, 3) := by decide +kernel
theorem dX5_proofOverInputs_95 : decode cX5_proofOverInputs 95 = .ok (.goto (-49), 3) := by decide +kernel
theorem dX5_proofOverInputs_98 : decode cX5_proofOverInputs 98 = .ok (.iload_n 2, 1) := by decide +kernel
theorem dX5_proofOverInputs_99 : decode cX5_proofOverInputs 99 = .ok (.ireturn, 1) := by decide +kernel
theorem dX5_stateOfInputs_0 : decode cX5_stateOfInputs 0 = .ok (.aload_n 0, 1) := by decide +kernel
theorem dX5_stateOfInputs_1 : decode cX5_stateOfInputs 1 = .ok (.aload_n 1, 1) := by decide +kernel
theorem dX5_stateOfInputs_2 : decode cX5_stateOfInputs 2 = .ok (.invokevirtual 52, 3) := by decide +kernel
theorem dX5_stateOfInputs_5 : decode cX5_stateOfInputs 5 = .ok (.istore_n 2, 1) := by decide +kernel
theorem dX5_stateOfInputs_6 : decode cX5_stateOfInputs 6 = .ok (.iconst 3, 1) := by decide +kernel
theorem dX5_stateOfInputs_7 : decode cX5_stateOfInputs 7 = .ok (.istore_n 3, 1) := by decide +kernel
theorem dX5_stateOfInputs_8 : decode cX5_stateOfInputs 8 = .ok (.iconst 0, 1) := by decide +kernel
theorem dX5_stateOfInputs_9 : decode cX5_stateOfInputs 9 = .ok (.istore 4, 2) := by decide +kernel
theorem dX5_stateOfInputs_11 : decode cX5_stateOfInputs 11 = .ok (.iload 4, 2) := by decide +kernel
theorem dX5_stateOfInputs_13 : decode cX5_stateOfInputs 13 = .ok (.aload_n 1, 1) := by decide +kernel
theorem dX5_stateOfInputs_14 : decode cX5_stateOfInputs 14 = .ok (.getfield 86, 3) := by decide +kernel
theorem dX5_stateOfInputs_17 : decode cX5_stateOfInputs 17 = .ok (.if_icmp .ge 90, 3) := by decide +kernel
theorem dX5_stateOfInputs_20 : decode cX5_stateOfInputs 20 = .ok (.iload_n 2, 1) := by decide +kernel
theorem dX5_stateOfInputs_21 : decode cX5_stateOfInputs 21 = .ok (.iload 4, 2) := by decide +kernel
theorem dX5_stateOfInputs_23 : decode cX5_stateOfInputs 23 = .ok (.invokestatic 48, 3) := by decide +kernel
theorem dX5_stateOfInputs_26 : decode cX5_stateOfInputs 26 = .ok (.ifCond .ne 6, 3) := by decide +kernel
theorem dX5_stateOfInputs_29 : decode cX5_stateOfInputs 29 = .ok (.goto 72, 3) := by decide +kernel
theorem dX5_stateOfInputs_32 : decode cX5_stateOfInputs 32 = .ok (.aload_n 0, 1) := by decide +kernel
theorem dX5_stateOfInputs_33 : decode cX5_stateOfInputs 33 = .ok (.iload 4, 2) := by decide +kernel
theorem dX5_stateOfInputs_35 : decode cX5_stateOfInputs 35 = .ok (.invokevirtual 44, 3) := by decide +kernel
theorem dX5_stateOfInputs_38 : decode cX5_stateOfInputs 38 = .ok (.getfield 131, 3) := by decide +kernel
theorem dX5_stateOfInputs_41 : decode cX5_stateOfInputs 41 = .ok (.astore 5, 2) := by decide +kernel
theorem dX5_stateOfInputs_43 : decode cX5_stateOfInputs 43 = .ok (.aload 5, 2) := by decide +kernel
theorem dX5_stateOfInputs_45 : decode cX5_stateOfInputs 45 = .ok (.arraylength, 1) := by decide +kernel
theorem dX5_stateOfInputs_46 : decode cX5_stateOfInputs 46 = .ok (.istore 6, 2) := by decide +kernel
theorem dX5_stateOfInputs_48 : decode cX5_stateOfInputs 48 = .ok (.iconst 0, 1) := by decide +kernel
theorem dX5_stateOfInputs_49 : decode cX5_stateOfInputs 49 = .ok (.istore 7, 2) := by decide +kernel
theorem dX5_stateOfInputs_51 : decode cX5_stateOfInputs 51 = .ok (.iload 7, 2) := by decide +kernel
theorem dX5_stateOfInputs_53 : decode cX5_stateOfInputs 53 = .ok (.iload 6, 2) := by decide +kernel
theorem dX5_stateOfInputs_55 : decode cX5_stateOfInputs 55 = .ok (.if_icmp .ge 46, 3) := by decide +kernel
theorem dX5_stateOfInputs_58 : decode cX5_stateOfInputs 58 = .ok (.aload 5, 2) := by decide +kernel
theorem dX5_stateOfInputs_60 : decode cX5_stateOfInputs 60 = .ok (.iload 7, 2) := by decide +kernel
theorem dX5_stateOfInputs_62 : decode cX5_stateOfInputs 62 = .ok (.aaload, 1) := by decide +kernel
theorem dX5_stateOfInputs_63 : decode cX5_stateOfInputs 63 = .ok (.astore 8, 2) := by decide +kernel
theorem dX5_stateOfInputs_65 : decode cX5_stateOfInputs 65 = .ok (.aload 8, 2) := by decide +kernel
theorem dX5_stateOfInputs_67 : decode cX5_stateOfInputs 67 = .ok (.invokevirtual 135, 3) := by decide +kernel
theorem dX5_stateOfInputs_70 : decode cX5_stateOfInputs 70 = .ok (.ifCond .eq 5, 3) := by decide +kernel
theorem dX5_stateOfInputs_73 : decode cX5_stateOfInputs 73 = .ok (.iconst 0, 1) := by decide +kernel
theorem dX5_stateOfInputs_74 : decode cX5_stateOfInputs 74 = .ok (.ireturn, 1) := by decide +kernel
theorem dX5_stateOfInputs_75 : decode cX5_stateOfInputs 75 = .ok (.aload 8, 2) := by decide +kernel
theorem dX5_stateOfInputs_77 : decode cX5_stateOfInputs 77 = .ok (.getfield 138, 3) := by decide +kernel
theorem dX5_stateOfInputs_80 : decode cX5_stateOfInputs 80 = .ok (.iconst 4, 1) := by decide +kernel
theorem dX5_stateOfInputs_81 : decode cX5_stateOfInputs 81 = .ok (.if_icmp .eq 12, 3) := by decide +kernel
theorem dX5_stateOfInputs_84 : decode cX5_stateOfInputs 84 = .ok (.aload 8, 2) := by decide +kernel
theorem dX5_stateOfInputs_86 : decode cX5_stateOfInputs 86 = .ok (.getfield 138, 3) := by decide +kernel
theorem dX5_stateOfInputs_89 : decode cX5_stateOfInputs 89 = .ok (.iconst 5, 1) := by decide +kernel
theorem dX5_stateOfInputs_90 : decode cX5_stateOfInputs 90 = .ok (.if_icmp .ne 5, 3) := by decide +kernel
theorem dX5_stateOfInputs_93 : decode cX5_stateOfInputs 93 = .ok (.iconst 5, 1) := by decide +kernel
theorem dX5_stateOfInputs_94 : decode cX5_stateOfInputs 94 = .ok (.istore_n 3, 1) := by decide +kernel
theorem dX5_stateOfInputs_95 : decode cX5_stateOfInputs 95 = .ok (.iinc 7 1, 3) := by decide +kernel
theorem dX5_stateOfInputs_98 : decode cX5_stateOfInputs 98 = .ok (.goto (-47), 3) := by decide +kernel
theorem dX5_stateOfInputs_101 : decode cX5_stateOfInputs 101 = .ok (.iinc 4 1, 3) := by decide +kernel
theorem dX5_stateOfInputs_104 : decode cX5_stateOfInputs 104 = .ok (.goto (-93), 3) := by decide +kernel
theorem dX5_stateOfInputs_107 : decode cX5_stateOfInputs 107 = .ok (.iload_n 3, 1) := by decide +kernel
theorem dX5_stateOfInputs_108 : decode cX5_stateOfInputs 108 = .ok (.ireturn, 1) := by decide +kernel
theorem dX6_init_0 : decode cX6_init 0 = .ok (.aload_n 0, 1) := by decide +kernel
theorem dX6_init_1 : decode cX6_init 1 = .ok (.invokespecial 3, 3) := by decide +kernel
theorem dX6_init_4 : decode cX6_init 4 = .ok (.aload_n 0, 1) := by decide +kernel
theorem dX6_init_5 : decode cX6_init 5 = .ok (.iconst 4, 1) := by decide +kernel
theorem dX6_init_6 : decode cX6_init 6 = .ok (.newarray .int, 2) := by decide +kernel
theorem dX6_init_8 : decode cX6_init 8 = .ok (.putfield 9, 3) := by decide +kernel
theorem dX6_init_11 : decode cX6_init 11 = .ok (.aload_n 0, 1) := by decide +kernel
theorem dX6_init_12 : decode cX6_init 12 = .ok (.iconst 4, 1) := by decide +kernel
theorem dX6_init_13 : decode cX6_init 13 = .ok (.newarray .int, 2) := by decide +kernel
theorem dX6_init_15 : decode cX6_init 15 = .ok (.putfield 15, 3) := by decide +kernel
theorem dX6_init_18 : decode cX6_init 18 = .ok (.aload_n 0, 1) := by decide +kernel
theorem dX6_init_19 : decode cX6_init 19 = .ok (.iconst 4, 1) := by decide +kernel
theorem dX6_init_20 : decode cX6_init 20 = .ok (.newarray .int, 2) := by decide +kernel
theorem dX6_init_22 : decode cX6_init 22 = .ok (.putfield 18, 3) := by decide +kernel
theorem dX6_init_25 : decode cX6_init 25 = .ok (.aload_n 0, 1) := by decide +kernel
theorem dX6_init_26 : decode cX6_init 26 = .ok (.iconst 4, 1) := by decide +kernel
theorem dX6_init_27 : decode cX6_init 27 = .ok (.newarray .int, 2) := by decide +kernel
theorem dX6_init_29 : decode cX6_init 29 = .ok (.putfield 21, 3) := by decide +kernel
theorem dX6_init_32 : decode cX6_init 32 = .ok (.aload_n 0, 1) := by decide +kernel
theorem dX6_init_33 : decode cX6_init 33 = .ok (.aload_n 1, 1) := by decide +kernel
theorem dX6_init_34 : decode cX6_init 34 = .ok (.putfield 24, 3) := by decide +kernel
theorem dX6_init_37 : decode cX6_init 37 = .ok (.return_, 1) := by decide +kernel
theorem dX6_append_0 : decode cX6_append 0 = .ok (.aload_n 0, 1) := by decide +kernel
theorem dX6_append_1 : decode cX6_append 1 = .ok (.getfield 9, 3) := by decide +kernel
theorem dX6_append_4 : decode cX6_append 4 = .ok (.aload_n 0, 1) := by decide +kernel
theorem dX6_append_5 : decode cX6_append 5 = .ok (.getfield 27, 3) := by decide +kernel
theorem dX6_append_8 : decode cX6_append 8 = .ok (.iload_n 1, 1) := by decide +kernel
theorem dX6_append_9 : decode cX6_append 9 = .ok (.invokestatic 31, 3) := by decide +kernel
theorem dX6_append_12 : decode cX6_append 12 = .ok (.aload_n 0, 1) := by decide +kernel
theorem dX6_append_13 : decode cX6_append 13 = .ok (.getfield 15, 3) := by decide +kernel
theorem dX6_append_16 : decode cX6_append 16 = .ok (.aload_n 0, 1) := by decide +kernel
theorem dX6_append_17 : decode cX6_append 17 = .ok (.getfield 27, 3) := by decide +kernel
theorem dX6_append_20 : decode cX6_append 20 = .ok (.iload_n 2, 1) := by decide +kernel
theorem dX6_append_21 : decode cX6_append 21 = .ok (.invokestatic 31, 3) := by decide +kernel
theorem dX6_append_24 : decode cX6_append 24 = .ok (.aload_n 0, 1) := by decide +kernel
theorem dX6_append_25 : decode cX6_append 25 = .ok (.getfield 18, 3) := by decide +kernel
theorem dX6_append_28 : decode cX6_append 28 = .ok (.aload_n 0, 1) := by decide +kernel
theorem dX6_append_29 : decode cX6_append 29 = .ok (.getfield 27, 3) := by decide +kernel
theorem dX6_append_32 : decode cX6_append 32 = .ok (.iload_n 3, 1) := by decide +kernel
theorem dX6_append_33 : decode cX6_append 33 = .ok (.invokestatic 31, 3) := by decide +kernel
theorem dX6_append_36 : decode cX6_append 36 = .ok (.aload_n 0, 1) := by decide +kernel
theorem dX6_append_37 : decode cX6_append 37 = .ok (.getfield 21, 3) := by decide +kernel
theorem dX6_append_40 : decode cX6_append 40 = .ok (.aload_n 0, 1) := by decide +kernel
theorem dX6_append_41 : decode cX6_append 41 = .ok (.getfield 27, 3) := by decide +kernel
theorem dX6_append_44 : decode cX6_append 44 = .ok (.iload 4, 2) := by decide +kernel
theorem dX6_append_46 : decode cX6_append 46 = .ok (.invokestatic 31, 3) := by decide +kernel
theorem dX6_append_49 : decode cX6_append 49 = .ok (.aload_n 0, 1) := by decide +kernel
theorem dX6_append_50 : decode cX6_append 50 = .ok (.dup, 1) := by decide +kernel
theorem dX6_append_51 : decode cX6_append 51 = .ok (.getfield 27, 3) := by decide +kernel
theorem dX6_append_54 : decode cX6_append 54 = .ok (.iconst 1, 1) := by decide +kernel
theorem dX6_append_55 : decode cX6_append 55 = .ok (.iadd, 1) := by decide +kernel
theorem dX6_append_56 : decode cX6_append 56 = .ok (.putfield 27, 3) := by decide +kernel
theorem dX6_append_59 : decode cX6_append 59 = .ok (.aload_n 0, 1) := by decide +kernel
theorem dX6_append_60 : decode cX6_append 60 = .ok (.getfield 27, 3) := by decide +kernel
theorem dX6_append_63 : decode cX6_append 63 = .ok (.ireturn, 1) := by decide +kernel
theorem dX6_become_0 : decode cX6_become 0 = .ok (.aload_n 0, 1) := by decide +kernel
theorem dX6_become_1 : decode cX6_become 1 = .ok (.iconst 0, 1) := by decide +kernel
theorem dX6_become_2 : decode cX6_become 2 = .ok (.putfield 27, 3) := by decide +kernel
theorem dX6_become_5 : decode cX6_become 5 = .ok (.iconst 0, 1) := by decide +kernel
theorem dX6_become_6 : decode cX6_become 6 = .ok (.istore_n 2, 1) := by decide +kernel
theorem dX6_become_7 : decode cX6_become 7 = .ok (.iload_n 2, 1) := by decide +kernel
theorem dX6_become_8 : decode cX6_become 8 = .ok (.aload_n 1, 1) := by decide +kernel
theorem dX6_become_9 : decode cX6_become 9 = .ok (.getfield 27, 3) := by decide +kernel
theorem dX6_become_12 : decode cX6_become 12 = .ok (.if_icmp .ge 46, 3) := by decide +kernel
theorem dX6_become_15 : decode cX6_become 15 = .ok (.aload_n 0, 1) := by decide +kernel
theorem dX6_become_16 : decode cX6_become 16 = .ok (.aload_n 1, 1) := by decide +kernel
theorem dX6_become_17 : decode cX6_become 17 = .ok (.getfield 9, 3) := by decide +kernel
theorem dX6_become_20 : decode cX6_become 20 = .ok (.iload_n 2, 1) := by decide +kernel
theorem dX6_become_21 : decode cX6_become 21 = .ok (.invokestatic 35, 3) := by decide +kernel
theorem dX6_become_24 : decode cX6_become 24 = .ok (.aload_n 1, 1) := by decide +kernel
theorem dX6_become_25 : decode cX6_become 25 = .ok (.getfield 15, 3) := by decide +kernel
theorem dX6_become_28 : decode cX6_become 28 = .ok (.iload_n 2, 1) := by decide +kernel
theorem dX6_become_29 : decode cX6_become 29 = .ok (.invokestatic 35, 3) := by decide +kernel
theorem dX6_become_32 : decode cX6_become 32 = .ok (.aload_n 1, 1) := by decide +kernel
theorem dX6_become_33 : decode cX6_become 33 = .ok (.getfield 18, 3) := by decide +kernel
theorem dX6_become_36 : decode cX6_become 36 = .ok (.iload_n 2, 1) := by decide +kernel
theorem dX6_become_37 : decode cX6_become 37 = .ok (.invokestatic 35, 3) := by decide +kernel
theorem dX6_become_40 : decode cX6_become 40 = .ok (.aload_n 1, 1) := by decide +kernel
theorem dX6_become_41 : decode cX6_become 41 = .ok (.getfield 21, 3) := by decide +kernel
theorem dX6_become_44 : decode cX6_become 44 = .ok (.iload_n 2, 1) := by decide +kernel
theorem dX6_become_45 : decode cX6_become 45 = .ok (.invokestatic 35, 3) := by decide +kernel
theorem dX6_become_48 : decode cX6_become 48 = .ok (.invokevirtual 39, 3) := by decide +kernel
theorem dX6_become_51 : decode cX6_become 51 = .ok (.pop, 1) := by decide +kernel
theorem dX6_become_52 : decode cX6_become 52 = .ok (.iinc 2 1, 3) := by decide +kernel
theorem dX6_become_55 : decode cX6_become 55 = .ok (.goto (-48), 3) := by decide +kernel
theorem dX6_become_58 : decode cX6_become 58 = .ok (.return_, 1) := by decide +kernel
theorem dX6_chosen_0 : decode cX6_chosen 0 = .ok (.aload_n 0, 1) := by decide +kernel
theorem dX6_chosen_1 : decode cX6_chosen 1 = .ok (.getfield 15, 3) := by decide +kernel
theorem dX6_chosen_4 : decode cX6_chosen 4 = .ok (.iload_n 1, 1) := by decide +kernel
theorem dX6_chosen_5 : decode cX6_chosen 5 = .ok (.invokestatic 35, 3) := by decide +kernel
theorem dX6_chosen_8 : decode cX6_chosen 8 = .ok (.istore_n 2, 1) := by decide +kernel
theorem dX6_chosen_9 : decode cX6_chosen 9 = .ok (.iload_n 2, 1) := by decide +kernel
theorem dX6_chosen_10 : decode cX6_chosen 10 = .ok (.iconst (-1), 1) := by decide +kernel
theorem dX6_chosen_11 : decode cX6_chosen 11 = .ok (.if_icmp .eq 29, 3) := by decide +kernel
theorem dX6_chosen_14 : decode cX6_chosen 14 = .ok (.aload_n 0, 1) := by decide +kernel
theorem dX6_chosen_15 : decode cX6_chosen 15 = .ok (.getfield 24, 3) := by decide +kernel
theorem dX6_chosen_18 : decode cX6_chosen 18 = .ok (.aload_n 0, 1) := by decide +kernel
theorem dX6_chosen_19 : decode cX6_chosen 19 = .ok (.getfield 18, 3) := by decide +kernel
theorem dX6_chosen_22 : decode cX6_chosen 22 = .ok (.iload_n 1, 1) := by decide +kernel
theorem dX6_chosen_23 : decode cX6_chosen 23 = .ok (.invokestatic 35, 3) := by decide +kernel
theorem dX6_chosen_26 : decode cX6_chosen 26 = .ok (.invokestatic 35, 3) := by decide +kernel
theorem dX6_chosen_29 : decode cX6_chosen 29 = .ok (.aload_n 0, 1) := by decide +kernel
theorem dX6_chosen_30 : decode cX6_chosen 30 = .ok (.getfield 21, 3) := by decide +kernel
theorem dX6_chosen_33 : decode cX6_chosen 33 = .ok (.iload_n 1, 1) := by decide +kernel
theorem dX6_chosen_34 : decode cX6_chosen 34 = .ok (.invokestatic 35, 3) := by decide +kernel
theorem dX6_chosen_37 : decode cX6_chosen 37 = .ok (.if_icmp .ne 7, 3) := by decide +kernel
theorem dX6_chosen_40 : decode cX6_chosen 40 = .ok (.iconst 1, 1) := by decide +kernel
theorem dX6_chosen_41 : decode cX6_chosen 41 = .ok (.goto 4, 3) := by decide +kernel
theorem dX6_chosen_44 : decode cX6_chosen 44 = .ok (.iconst 0, 1) := by decide +kernel
theorem dX6_chosen_45 : decode cX6_chosen 45 = .ok (.istore_n 3, 1) := by decide +kernel
theorem dX6_chosen_46 : decode cX6_chosen 46 = .ok (.iload_n 3, 1) := by decide +kernel
theorem dX6_chosen_47 : decode cX6_chosen 47 = .ok (.ifCond .eq 14, 3) := by decide +kernel
theorem dX6_chosen_50 : decode cX6_chosen 50 = .ok (.aload_n 0, 1) := by decide +kernel
theorem dX6_chosen_51 : decode cX6_chosen 51 = .ok (.getfield 9, 3) := by decide +kernel
theorem dX6_chosen_54 : decode cX6_chosen 54 = .ok (.iload_n 1, 1) := by decide +kernel
theorem dX6_chosen_55 : decode cX6_chosen 55 = .ok (.invokestatic 35, 3) := by decide +kernel
theorem dX6_chosen_58 : decode cX6_chosen 58 = .ok (.goto 4, 3) := by decide +kernel
theorem dX6_chosen_61 : decode cX6_chosen 61 = .ok (.iload_n 2, 1) := by decide +kernel
theorem dX6_chosen_62 : decode cX6_chosen 62 = .ok (.ireturn, 1) := by decide +kernel
theorem dX7_init_0 : decode cX7_init 0 = .ok (.aload_n 0, 1) := by decide +kernel
theorem dX7_init_1 : decode cX7_init 1 = .ok (.invokespecial 3, 3) := by decide +kernel
theorem dX7_init_4 : decode cX7_init 4 = .ok (.aload_n 0, 1) := by decide +kernel
theorem dX7_init_5 : decode cX7_init 5 = .ok (.bipush 16, 2) := by decide +kernel
theorem dX7_init_7 : decode cX7_init 7 = .ok (.newarray .int, 2) := by decide +kernel
theorem dX7_init_9 : decode cX7_init 9 = .ok (.putfield 9, 3) := by decide +kernel
theorem dX7_init_12 : decode cX7_init 12 = .ok (.aload_n 0, 1) := by decide +kernel
theorem dX7_init_13 : decode cX7_init 13 = .ok (.iconst 4, 1) := by decide +kernel
theorem dX7_init_14 : decode cX7_init 14 = .ok (.newarray .int, 2) := by decide +kernel
theorem dX7_init_16 : decode cX7_init 16 = .ok (.putfield 15, 3) := by decide +kernel
theorem dX7_init_19 : decode cX7_init 19 = .ok (.aload_n 0, 1) := by decide +kernel
theorem dX7_init_20 : decode cX7_init 20 = .ok (.iconst 4, 1) := by decide +kernel
theorem dX7_init_21 : decode cX7_init 21 = .ok (.newarray .int, 2) := by decide +kernel
theorem dX7_init_23 : decode cX7_init 23 = .ok (.putfield 18, 3) := by decide +kernel
theorem dX7_init_26 : decode cX7_init 26 = .ok (.aload_n 0, 1) := by decide +kernel
theorem dX7_init_27 : decode cX7_init 27 = .ok (.bipush 30, 2) := by decide +kernel
theorem dX7_init_29 : decode cX7_init 29 = .ok (.newarray .int, 2) := by decide +kernel
theorem dX7_init_31 : decode cX7_init 31 = .ok (.putfield 21, 3) := by decide +kernel
theorem dX7_init_34 : decode cX7_init 34 = .ok (.aload_n 0, 1) := by decide +kernel
theorem dX7_init_35 : decode cX7_init 35 = .ok (.bipush 30, 2) := by decide +kernel
theorem dX7_init_37 : decode cX7_init 37 = .ok (.newarray .int, 2) := by decide +kernel
theorem dX7_init_39 : decode cX7_init 39 = .ok (.putfield 24, 3) := by decide +kernel
theorem dX7_init_42 : decode cX7_init 42 = .ok (.return_, 1) := by decide +kernel
theorem dX7_rewrite_0 : decode cX7_rewrite 0 = .ok (.aload_n 0, 1) := by decide +kernel
theorem dX7_rewrite_1 : decode cX7_rewrite 1 = .ok (.getfield 9, 3) := by decide +kernel
theorem dX7_rewrite_4 : decode cX7_rewrite 4 = .ok (.iload_n 1, 1) := by decide +kernel
theorem dX7_rewrite_5 : decode cX7_rewrite 5 = .ok (.iload_n 2, 1) := by decide +kernel
theorem dX7_rewrite_6 : decode cX7_rewrite 6 = .ok (.invokestatic 27, 3) := by decide +kernel
theorem dX7_rewrite_9 : decode cX7_rewrite 9 = .ok (.istore_n 3, 1) := by decide +kernel
theorem dX7_rewrite_10 : decode cX7_rewrite 10 = .ok (.iload_n 3, 1) := by decide +kernel
theorem dX7_rewrite_11 : decode cX7_rewrite 11 = .ok (.iload_n 2, 1) := by decide +kernel
theorem dX7_rewrite_12 : decode cX7_rewrite 12 = .ok (.if_icmp .eq 9, 3) := by decide +kernel
theorem dX7_rewrite_15 : decode cX7_rewrite 15 = .ok (.aload_n 0, 1) := by decide +kernel
theorem dX7_rewrite_16 : decode cX7_rewrite 16 = .ok (.iload_n 1, 1) := by decide +kernel
theorem dX7_rewrite_17 : decode cX7_rewrite 17 = .ok (.iload_n 3, 1) := by decide +kernel
theorem dX7_rewrite_18 : decode cX7_rewrite 18 = .ok (.invokevirtual 31, 3) := by decide +kernel
theorem dX7_rewrite_21 : decode cX7_rewrite 21 = .ok (.iload_n 3, 1) := by decide +kernel
theorem dX7_rewrite_22 : decode cX7_rewrite 22 = .ok (.ireturn, 1) := by decide +kernel
theorem dX7_keepChange_0 : decode cX7_keepChange 0 = .ok (.aload_n 0, 1) := by decide +kernel
theorem dX7_keepChange_1 : decode cX7_keepChange 1 = .ok (.getfield 35, 3) := by decide +kernel
theorem dX7_keepChange_4 : decode cX7_keepChange 4 = .ok (.bipush 30, 2) := by decide +kernel
theorem dX7_keepChange_6 : decode cX7_keepChange 6 = .ok (.if_icmp .ne 7, 3) := by decide +kernel
theorem dX7_keepChange_9 : decode cX7_keepChange 9 = .ok (.aload_n 0, 1) := by decide +kernel
theorem dX7_keepChange_10 : decode cX7_keepChange 10 = .ok (.invokevirtual 39, 3) := by decide +kernel
theorem dX7_keepChange_13 : decode cX7_keepChange 13 = .ok (.aload_n 0, 1) := by decide +kernel
theorem dX7_keepChange_14 : decode cX7_keepChange 14 = .ok (.getfield 21, 3) := by decide +kernel
theorem dX7_keepChange_17 : decode cX7_keepChange 17 = .ok (.aload_n 0, 1) := by decide +kernel
theorem dX7_keepChange_18 : decode cX7_keepChange 18 = .ok (.getfield 35, 3) := by decide +kernel
theorem dX7_keepChange_21 : decode cX7_keepChange 21 = .ok (.iload_n 1, 1) := by decide +kernel
theorem dX7_keepChange_22 : decode cX7_keepChange 22 = .ok (.invokestatic 42, 3) := by decide +kernel
theorem dX7_keepChange_25 : decode cX7_keepChange 25 = .ok (.aload_n 0, 1) := by decide +kernel
theorem dX7_keepChange_26 : decode cX7_keepChange 26 = .ok (.getfield 24, 3) := by decide +kernel
theorem dX7_keepChange_29 : decode cX7_keepChange 29 = .ok (.aload_n 0, 1) := by decide +kernel
theorem dX7_keepChange_30 : decode cX7_keepChange 30 = .ok (.getfield 35, 3) := by decide +kernel
theorem dX7_keepChange_33 : decode cX7_keepChange 33 = .ok (.iload_n 2, 1) := by decide +kernel
theorem dX7_keepChange_34 : decode cX7_keepChange 34 = .ok (.invokestatic 42, 3) := by decide +kernel
theorem dX7_keepChange_37 : decode cX7_keepChange 37 = .ok (.aload_n 0, 1) := by decide +kernel
theorem dX7_keepChange_38 : decode cX7_keepChange 38 = .ok (.dup, 1) := by decide +kernel
theorem dX7_keepChange_39 : decode cX7_keepChange 39 = .ok (.getfield 35, 3) := by decide +kernel
theorem dX7_keepChange_42 : decode cX7_keepChange 42 = .ok (.iconst 1, 1) := by decide +kernel
theorem dX7_keepChange_43 : decode cX7_keepChange 43 = .ok (.iadd, 1) := by decide +kernel
theorem dX7_keepChange_44 : decode cX7_keepChange 44 = .ok (.putfield 35, 3) := by decide +kernel
theorem dX7_keepChange_47 : decode cX7_keepChange 47 = .ok (.return_, 1) := by decide +kernel
theorem dX7_forgetFirstChange_0 : decode cX7_forgetFirstChange 0 = .ok (.iconst 1, 1) := by decide +kernel
theorem dX7_forgetFirstChange_1 : decode cX7_forgetFirstChange 1 = .ok (.istore_n 1, 1) := by decide +kernel
theorem dX7_forgetFirstChange_2 : decode cX7_forgetFirstChange 2 = .ok (.iload_n 1, 1) := by decide +kernel
theorem dX7_forgetFirstChange_3 : decode cX7_forgetFirstChange 3 = .ok (.aload_n 0, 1) := by decide +kernel
theorem dX7_forgetFirstChange_4 : decode cX7_forgetFirstChange 4 = .ok (.getfield 35, 3) := by decide +kernel
theorem dX7_forgetFirstChange_7 : decode cX7_forgetFirstChange 7 = .ok (.if_icmp .ge 45, 3) := by decide +kernel
theorem dX7_forgetFirstChange_10 : decode cX7_forgetFirstChange 10 = .ok (.aload_n 0, 1) := by decide +kernel
theorem dX7_forgetFirstChange_11 : decode cX7_forgetFirstChange 11 = .ok (.getfield 21, 3) := by decide +kernel
theorem dX7_forgetFirstChange_14 : decode cX7_forgetFirstChange 14 = .ok (.iload_n 1, 1) := by decide +kernel
theorem dX7_forgetFirstChange_15 : decode cX7_forgetFirstChange 15 = .ok (.iconst 1, 1) := by decide +kernel
theorem dX7_forgetFirstChange_16 : decode cX7_forgetFirstChange 16 = .ok (.isub, 1) := by decide +kernel
theorem dX7_forgetFirstChange_17 : decode cX7_forgetFirstChange 17 = .ok (.aload_n 0, 1) := by decide +kernel
theorem dX7_forgetFirstChange_18 : decode cX7_forgetFirstChange 18 = .ok (.getfield 21, 3) := by decide +kernel
theorem dX7_forgetFirstChange_21 : decode cX7_forgetFirstChange 21 = .ok (.iload_n 1, 1) := by decide +kernel
theorem dX7_forgetFirstChange_22 : decode cX7_forgetFirstChange 22 = .ok (.invokestatic 46, 3) := by decide +kernel
theorem dX7_forgetFirstChange_25 : decode cX7_forgetFirstChange 25 = .ok (.invokestatic 42, 3) := by decide +kernel
theorem dX7_forgetFirstChange_28 : decode cX7_forgetFirstChange 28 = .ok (.aload_n 0, 1) := by decide +kernel
theorem dX7_forgetFirstChange_29 : decode cX7_forgetFirstChange 29 = .ok (.getfield 24, 3) := by decide +kernel
theorem dX7_forgetFirstChange_32 : decode cX7_forgetFirstChange 32 = .ok (.iload_n 1, 1) := by decide +kernel
theorem dX7_forgetFirstChange_33 : decode cX7_forgetFirstChange 33 = .ok (.iconst 1, 1) := by decide +kernel
theorem dX7_forgetFirstChange_34 : decode cX7_forgetFirstChange 34 = .ok (.isub, 1) := by decide +kernel
theorem dX7_forgetFirstChange_35 : decode cX7_forgetFirstChange 35 = .ok (.aload_n 0, 1) := by decide +kernel
theorem dX7_forgetFirstChange_36 : decode cX7_forgetFirstChange 36 = .ok (.getfield 24, 3) := by decide +kernel
theorem dX7_forgetFirstChange_39 : decode cX7_forgetFirstChange 39 = .ok (.iload_n 1, 1) := by decide +kernel
theorem dX7_forgetFirstChange_40 : decode cX7_forgetFirstChange 40 = .ok (.invokestatic 46, 3) := by decide +kernel
theorem dX7_forgetFirstChange_43 : decode cX7_forgetFirstChange 43 = .ok (.invokestatic 42, 3) := by decide +kernel
theorem dX7_forgetFirstChange_46 : decode cX7_forgetFirstChange 46 = .ok (.iinc 1 1, 3) := by decide +kernel
theorem dX7_forgetFirstChange_49 : decode cX7_forgetFirstChange 49 = .ok (.goto (-47), 3) := by decide +kernel
theorem dX7_forgetFirstChange_52 : decode cX7_forgetFirstChange 52 = .ok (.aload_n 0, 1) := by decide +kernel
theorem dX7_forgetFirstChange_53 : decode cX7_forgetFirstChange 53 = .ok (.dup, 1) := by decide +kernel
theorem dX7_forgetFirstChange_54 : decode cX7_forgetFirstChange 54 = .ok (.getfield 35, 3) := by decide +kernel
theorem dX7_forgetFirstChange_57 : decode cX7_forgetFirstChange 57 = .ok (.iconst 1, 1) := by decide +kernel
theorem dX7_forgetFirstChange_58 : decode cX7_forgetFirstChange 58 = .ok (.isub, 1) := by decide +kernel
theorem dX7_forgetFirstChange_59 : decode cX7_forgetFirstChange 59 = .ok (.putfield 35, 3) := by decide +kernel
theorem dX7_forgetFirstChange_62 : decode cX7_forgetFirstChange 62 = .ok (.return_, 1) := by decide +kernel
theorem dX7_filesAfter_0 : decode cX7_filesAfter 0 = .ok (.iconst 0, 1) := by decide +kernel
theorem dX7_filesAfter_1 : decode cX7_filesAfter 1 = .ok (.istore_n 3, 1) := by decide +kernel
theorem dX7_filesAfter_2 : decode cX7_filesAfter 2 = .ok (.iload_n 3, 1) := by decide +kernel
theorem dX7_filesAfter_3 : decode cX7_filesAfter 3 = .ok (.bipush 16, 2) := by decide +kernel
theorem dX7_filesAfter_5 : decode cX7_filesAfter 5 = .ok (.if_icmp .ge 22, 3) := by decide +kernel
theorem dX7_filesAfter_8 : decode cX7_filesAfter 8 = .ok (.aload_n 2, 1) := by decide +kernel
theorem dX7_filesAfter_9 : decode cX7_filesAfter 9 = .ok (.iload_n 3, 1) := by decide +kernel
theorem dX7_filesAfter_10 : decode cX7_filesAfter 10 = .ok (.aload_n 0, 1) := by decide +kernel
theorem dX7_filesAfter_11 : decode cX7_filesAfter 11 = .ok (.getfield 9, 3) := by decide +kernel
theorem dX7_filesAfter_14 : decode cX7_filesAfter 14 = .ok (.iload_n 3, 1) := by decide +kernel
theorem dX7_filesAfter_15 : decode cX7_filesAfter 15 = .ok (.invokestatic 46, 3) := by decide +kernel
theorem dX7_filesAfter_18 : decode cX7_filesAfter 18 = .ok (.invokestatic 42, 3) := by decide +kernel
theorem dX7_filesAfter_21 : decode cX7_filesAfter 21 = .ok (.iinc 3 1, 3) := by decide +kernel
theorem dX7_filesAfter_24 : decode cX7_filesAfter 24 = .ok (.goto (-22), 3) := by decide +kernel
theorem dX7_filesAfter_27 : decode cX7_filesAfter 27 = .ok (.aload_n 0, 1) := by decide +kernel
theorem dX7_filesAfter_28 : decode cX7_filesAfter 28 = .ok (.getfield 35, 3) := by decide +kernel
theorem dX7_filesAfter_31 : decode cX7_filesAfter 31 = .ok (.iconst 1, 1) := by decide +kernel
theorem dX7_filesAfter_32 : decode cX7_filesAfter 32 = .ok (.isub, 1) := by decide +kernel
theorem dX7_filesAfter_33 : decode cX7_filesAfter 33 = .ok (.istore_n 3, 1) := by decide +kernel
theorem dX7_filesAfter_34 : decode cX7_filesAfter 34 = .ok (.iload_n 3, 1) := by decide +kernel
theorem dX7_filesAfter_35 : decode cX7_filesAfter 35 = .ok (.iload_n 1, 1) := by decide +kernel
theorem dX7_filesAfter_36 : decode cX7_filesAfter 36 = .ok (.if_icmp .lt 29, 3) := by decide +kernel
theorem dX7_filesAfter_39 : decode cX7_filesAfter 39 = .ok (.aload_n 2, 1) := by decide +kernel
theorem dX7_filesAfter_40 : decode cX7_filesAfter 40 = .ok (.aload_n 0, 1) := by decide +kernel
theorem dX7_filesAfter_41 : decode cX7_filesAfter 41 = .ok (.getfield 21, 3) := by decide +kernel
theorem dX7_filesAfter_44 : decode cX7_filesAfter 44 = .ok (.iload_n 3, 1) := by decide +kernel
theorem dX7_filesAfter_45 : decode cX7_filesAfter 45 = .ok (.invokestatic 46, 3) := by decide +kernel
theorem dX7_filesAfter_48 : decode cX7_filesAfter 48 = .ok (.aload_n 0, 1) := by decide +kernel
theorem dX7_filesAfter_49 : decode cX7_filesAfter 49 = .ok (.getfield 24, 3) := by decide +kernel
theorem dX7_filesAfter_52 : decode cX7_filesAfter 52 = .ok (.iload_n 3, 1) := by decide +kernel
theorem dX7_filesAfter_53 : decode cX7_filesAfter 53 = .ok (.invokestatic 46, 3) := by decide +kernel
theorem dX7_filesAfter_56 : decode cX7_filesAfter 56 = .ok (.invokestatic 42, 3) := by decide +kernel
theorem dX7_filesAfter_59 : decode cX7_filesAfter 59 = .ok (.iinc 3 (-1), 3) := by decide +kernel
theorem dX7_filesAfter_62 : decode cX7_filesAfter 62 = .ok (.goto (-28), 3) := by decide +kernel
theorem dX7_filesAfter_65 : decode cX7_filesAfter 65 = .ok (.return_, 1) := by decide +kernel
theorem dX8_init_0 : decode cX8_init 0 = .ok (.aload_n 0, 1) := by decide +kernel
theorem dX8_init_1 : decode cX8_init 1 = .ok (.invokespecial 3, 3) := by decide +kernel
theorem dX8_init_4 : decode cX8_init 4 = .ok (.aload_n 0, 1) := by decide +kernel
theorem dX8_init_5 : decode cX8_init 5 = .ok (.iconst 4, 1) := by decide +kernel
theorem dX8_init_6 : decode cX8_init 6 = .ok (.anewarray 9, 3) := by decide +kernel
theorem dX8_init_9 : decode cX8_init 9 = .ok (.putfield 11, 3) := by decide +kernel
theorem dX8_init_12 : decode cX8_init 12 = .ok (.aload_n 0, 1) := by decide +kernel
theorem dX8_init_13 : decode cX8_init 13 = .ok (.iconst 5, 1) := by decide +kernel
theorem dX8_init_14 : decode cX8_init 14 = .ok (.putfield 17, 3) := by decide +kernel
theorem dX8_init_17 : decode cX8_init 17 = .ok (.aload_n 0, 1) := by decide +kernel
theorem dX8_init_18 : decode cX8_init 18 = .ok (.iload_n 1, 1) := by decide +kernel
theorem dX8_init_19 : decode cX8_init 19 = .ok (.putfield 21, 3) := by decide +kernel
theorem dX8_init_22 : decode cX8_init 22 = .ok (.aload_n 0, 1) := by decide +kernel
theorem dX8_init_23 : decode cX8_init 23 = .ok (.new 24, 3) := by decide +kernel
theorem dX8_init_26 : decode cX8_init 26 = .ok (.dup, 1) := by decide +kernel
theorem dX8_init_27 : decode cX8_init 27 = .ok (.aload_n 2, 1) := by decide +kernel
theorem dX8_init_28 : decode cX8_init 28 = .ok (.invokespecial 26, 3) := by decide +kernel
theorem dX8_init_31 : decode cX8_init 31 = .ok (.putfield 29, 3) := by decide +kernel
theorem dX8_init_34 : decode cX8_init 34 = .ok (.iconst 0, 1) := by decide +kernel
theorem dX8_init_35 : decode cX8_init 35 = .ok (.istore_n 3, 1) := by decide +kernel
theorem dX8_init_36 : decode cX8_init 36 = .ok (.iload_n 3, 1) := by decide +kernel
theorem dX8_init_37 : decode cX8_init 37 = .ok (.iconst 4, 1) := by decide +kernel
theorem dX8_init_38 : decode cX8_init 38 = .ok (.if_icmp .ge 24, 3) := by decide +kernel
theorem dX8_init_41 : decode cX8_init 41 = .ok (.aload_n 0, 1) := by decide +kernel
theorem dX8_init_42 : decode cX8_init 42 = .ok (.getfield 11, 3) := by decide +kernel
theorem dX8_init_45 : decode cX8_init 45 = .ok (.iload_n 3, 1) := by decide +kernel
theorem dX8_init_46 : decode cX8_init 46 = .ok (.new 9, 3) := by decide +kernel
theorem dX8_init_49 : decode cX8_init 49 = .ok (.dup, 1) := by decide +kernel
theorem dX8_init_50 : decode cX8_init 50 = .ok (.iload_n 1, 1) := by decide +kernel
theorem dX8_init_51 : decode cX8_init 51 = .ok (.iload_n 3, 1) := by decide +kernel
theorem dX8_init_52 : decode cX8_init 52 = .ok (.invokespecial 33, 3) := by decide +kernel
theorem dX8_init_55 : decode cX8_init 55 = .ok (.aastore, 1) := by decide +kernel
theorem dX8_init_56 : decode cX8_init 56 = .ok (.iinc 3 1, 3) := by decide +kernel
theorem dX8_init_59 : decode cX8_init 59 = .ok (.goto (-23), 3) := by decide +kernel
theorem dX8_init_62 : decode cX8_init 62 = .ok (.return_, 1) := by decide +kernel
theorem dX8_describe_0 : decode cX8_describe 0 = .ok (.aload_n 0, 1) := by decide +kernel
theorem dX8_describe_1 : decode cX8_describe 1 = .ok (.iload_n 1, 1) := by decide +kernel
theorem dX8_describe_2 : decode cX8_describe 2 = .ok (.putfield 36, 3) := by decide +kernel
theorem dX8_describe_5 : decode cX8_describe 5 = .ok (.aload_n 0, 1) := by decide +kernel
theorem dX8_describe_6 : decode cX8_describe 6 = .ok (.iload_n 2, 1) := by decide +kernel
theorem dX8_describe_7 : decode cX8_describe 7 = .ok (.putfield 39, 3) := by decide +kernel
theorem dX8_describe_10 : decode cX8_describe 10 = .ok (.aload_n 0, 1) := by decide +kernel
theorem dX8_describe_11 : decode cX8_describe 11 = .ok (.iload_n 3, 1) := by decide +kernel
theorem dX8_describe_12 : decode cX8_describe 12 = .ok (.putfield 42, 3) := by decide +kernel
theorem dX8_describe_15 : decode cX8_describe 15 = .ok (.aload_n 0, 1) := by decide +kernel
theorem dX8_describe_16 : decode cX8_describe 16 = .ok (.iload 4, 2) := by decide +kernel
theorem dX8_describe_18 : decode cX8_describe 18 = .ok (.putfield 45, 3) := by decide +kernel
theorem dX8_describe_21 : decode cX8_describe 21 = .ok (.aload_n 0, 1) := by decide +kernel
theorem dX8_describe_22 : decode cX8_describe 22 = .ok (.iload 5, 2) := by decide +kernel
theorem dX8_describe_24 : decode cX8_describe 24 = .ok (.putfield 48, 3) := by decide +kernel
theorem dX8_describe_27 : decode cX8_describe 27 = .ok (.aload_n 0, 1) := by decide +kernel
theorem dX8_describe_28 : decode cX8_describe 28 = .ok (.iload 6, 2) := by decide +kernel
theorem dX8_describe_30 : decode cX8_describe 30 = .ok (.putfield 51, 3) := by decide +kernel
theorem dX8_describe_33 : decode cX8_describe 33 = .ok (.return_, 1) := by decide +kernel
theorem dX8_startOver_0 : decode cX8_startOver 0 = .ok (.iconst 0, 1) := by decide +kernel
theorem dX8_startOver_1 : decode cX8_startOver 1 = .ok (.istore_n 2, 1) := by decide +kernel
theorem dX8_startOver_2 : decode cX8_startOver 2 = .ok (.iload_n 2, 1) := by decide +kernel
theorem dX8_startOver_3 : decode cX8_startOver 3 = .ok (.aload_n 0, 1) := by decide +kernel
theorem dX8_startOver_4 : decode cX8_startOver 4 = .ok (.getfield 45, 3) := by decide +kernel
theorem dX8_startOver_7 : decode cX8_startOver 7 = .ok (.if_icmp .ge 28, 3) := by decide +kernel
theorem dX8_startOver_10 : decode cX8_startOver 10 = .ok (.aload_n 0, 1) := by decide +kernel
theorem dX8_startOver_11 : decode cX8_startOver 11 = .ok (.iload_n 2, 1) := by decide +kernel
theorem dX8_startOver_12 : decode cX8_startOver 12 = .ok (.invokevirtual 54, 3) := by decide +kernel
theorem dX8_startOver_15 : decode cX8_startOver 15 = .ok (.astore_n 3, 1) := by decide +kernel
theorem dX8_startOver_16 : decode cX8_startOver 16 = .ok (.aload_n 3, 1) := by decide +kernel
theorem dX8_startOver_17 : decode cX8_startOver 17 = .ok (.invokevirtual 58, 3) := by decide +kernel
theorem dX8_startOver_20 : decode cX8_startOver 20 = .ok (.iload_n 1, 1) := by decide +kernel
theorem dX8_startOver_21 : decode cX8_startOver 21 = .ok (.ifCond .ne 8, 3) := by decide +kernel
theorem dX8_startOver_24 : decode cX8_startOver 24 = .ok (.aload_n 3, 1) := by decide +kernel
theorem dX8_startOver_25 : decode cX8_startOver 25 = .ok (.iconst (-1), 1) := by decide +kernel
theorem dX8_startOver_26 : decode cX8_startOver 26 = .ok (.putfield 61, 3) := by decide +kernel
theorem dX8_startOver_29 : decode cX8_startOver 29 = .ok (.iinc 2 1, 3) := by decide +kernel
theorem dX8_startOver_32 : decode cX8_startOver 32 = .ok (.goto (-30), 3) := by decide +kernel
theorem dX8_startOver_35 : decode cX8_startOver 35 = .ok (.return_, 1) := by decide +kernel
theorem dX8_actionAt_0 : decode cX8_actionAt 0 = .ok (.iload_n 1, 1) := by decide +kernel
theorem dX8_actionAt_1 : decode cX8_actionAt 1 = .ok (.ifCond .lt 17, 3) := by decide +kernel
theorem dX8_actionAt_4 : decode cX8_actionAt 4 = .ok (.iload_n 1, 1) := by decide +kernel
theorem dX8_actionAt_5 : decode cX8_actionAt 5 = .ok (.iconst 4, 1) := by decide +kernel
theorem dX8_actionAt_6 : decode cX8_actionAt 6 = .ok (.if_icmp .ge 12, 3) := by decide +kernel
theorem dX8_actionAt_9 : decode cX8_actionAt 9 = .ok (.aload_n 0, 1) := by decide +kernel
theorem dX8_actionAt_10 : decode cX8_actionAt 10 = .ok (.getfield 11, 3) := by decide +kernel
theorem dX8_actionAt_13 : decode cX8_actionAt 13 = .ok (.iload_n 1, 1) := by decide +kernel
theorem dX8_actionAt_14 : decode cX8_actionAt 14 = .ok (.aaload, 1) := by decide +kernel
theorem dX8_actionAt_15 : decode cX8_actionAt 15 = .ok (.goto 9, 3) := by decide +kernel
theorem dX8_actionAt_18 : decode cX8_actionAt 18 = .ok (.aload_n 0, 1) := by decide +kernel
theorem dX8_actionAt_19 : decode cX8_actionAt 19 = .ok (.getfield 11, 3) := by decide +kernel
theorem dX8_actionAt_22 : decode cX8_actionAt 22 = .ok (.iconst 0, 1) := by decide +kernel
theorem dX8_actionAt_23 : decode cX8_actionAt 23 = .ok (.aaload, 1) := by decide +kernel
theorem dX8_actionAt_24 : decode cX8_actionAt 24 = .ok (.areturn, 1) := by decide +kernel
theorem dX8_work_0 : decode cX8_work 0 = .ok (.bipush 6, 2) := by decide +kernel
theorem dX8_work_2 : decode cX8_work 2 = .ok (.iconst 2, 1) := by decide +kernel
theorem dX8_work_3 : decode cX8_work 3 = .ok (.aload_n 0, 1) := by decide +kernel
theorem dX8_work_4 : decode cX8_work 4 = .ok (.getfield 29, 3) := by decide +kernel
theorem dX8_work_7 : decode cX8_work 7 = .ok (.getfield 64, 3) := by decide +kernel
theorem dX8_work_10 : decode cX8_work 10 = .ok (.imul, 1) := by decide +kernel
theorem dX8_work_11 : decode cX8_work 11 = .ok (.iadd, 1) := by decide +kernel
theorem dX8_work_12 : decode cX8_work 12 = .ok (.aload_n 0, 1) := by decide +kernel
theorem dX8_work_13 : decode cX8_work 13 = .ok (.getfield 36, 3) := by decide +kernel
theorem dX8_work_16 : decode cX8_work 16 = .ok (.iconst 1, 1) := by decide +kernel
theorem dX8_work_17 : decode cX8_work 17 = .ok (.if_icmp .ne 7, 3) := by decide +kernel
theorem dX8_work_20 : decode cX8_work 20 = .ok (.iconst 4, 1) := by decide +kernel
theorem dX8_work_21 : decode cX8_work 21 = .ok (.goto 4, 3) := by decide +kernel
theorem dX8_work_24 : decode cX8_work 24 = .ok (.iconst 0, 1) := by decide +kernel
theorem dX8_work_25 : decode cX8_work 25 = .ok (.iadd, 1) := by decide +kernel
theorem dX8_work_26 : decode cX8_work 26 = .ok (.ireturn, 1) := by decide +kernel
theorem dX8_fileFound_0 : decode cX8_fileFound 0 = .ok (.aload_n 0, 1) := by decide +kernel
theorem dX8_fileFound_1 : decode cX8_fileFound 1 = .ok (.getfield 48, 3) := by decide +kernel
theorem dX8_fileFound_4 : decode cX8_fileFound 4 = .ok (.iconst (-1), 1) := by decide +kernel
theorem dX8_fileFound_5 : decode cX8_fileFound 5 = .ok (.if_icmp .ne 7, 3) := by decide +kernel
theorem dX8_fileFound_8 : decode cX8_fileFound 8 = .ok (.iconst (-1), 1) := by decide +kernel
theorem dX8_fileFound_9 : decode cX8_fileFound 9 = .ok (.goto 7, 3) := by decide +kernel
theorem dX8_fileFound_12 : decode cX8_fileFound 12 = .ok (.iload_n 1, 1) := by decide +kernel
theorem dX8_fileFound_13 : decode cX8_fileFound 13 = .ok (.bipush 16, 2) := by decide +kernel
theorem dX8_fileFound_15 : decode cX8_fileFound 15 = .ok (.irem, 1) := by decide +kernel
theorem dX8_fileFound_16 : decode cX8_fileFound 16 = .ok (.ireturn, 1) := by decide +kernel
theorem dX8_breaksOut_0 : decode cX8_breaksOut 0 = .ok (.aload_n 0, 1) := by decide +kernel
theorem dX8_breaksOut_1 : decode cX8_breaksOut 1 = .ok (.getfield 48, 3) := by decide +kernel
theorem dX8_breaksOut_4 : decode cX8_breaksOut 4 = .ok (.iconst (-1), 1) := by decide +kernel
theorem dX8_breaksOut_5 : decode cX8_breaksOut 5 = .ok (.if_icmp .eq 21, 3) := by decide +kernel
theorem dX8_breaksOut_8 : decode cX8_breaksOut 8 = .ok (.aload_n 0, 1) := by decide +kernel
theorem dX8_breaksOut_9 : decode cX8_breaksOut 9 = .ok (.getfield 48, 3) := by decide +kernel
theorem dX8_breaksOut_12 : decode cX8_breaksOut 12 = .ok (.iload_n 1, 1) := by decide +kernel
theorem dX8_breaksOut_13 : decode cX8_breaksOut 13 = .ok (.bipush 16, 2) := by decide +kernel
theorem dX8_breaksOut_15 : decode cX8_breaksOut 15 = .ok (.irem, 1) := by decide +kernel
theorem dX8_breaksOut_16 : decode cX8_breaksOut 16 = .ok (.invokestatic 67, 3) := by decide +kernel
theorem dX8_breaksOut_19 : decode cX8_breaksOut 19 = .ok (.ifCond .ne 7, 3) := by decide +kernel
theorem dX8_breaksOut_22 : decode cX8_breaksOut 22 = .ok (.iconst 1, 1) := by decide +kernel
theorem dX8_breaksOut_23 : decode cX8_breaksOut 23 = .ok (.goto 4, 3) := by decide +kernel
theorem dX8_breaksOut_26 : decode cX8_breaksOut 26 = .ok (.iconst 0, 1) := by decide +kernel
theorem dX8_breaksOut_27 : decode cX8_breaksOut 27 = .ok (.ireturn, 1) := by decide +kernel
theorem dX8_isGoodResult_0 : decode cX8_isGoodResult 0 = .ok (.aload_n 0, 1) := by decide +kernel
theorem dX8_isGoodResult_1 : decode cX8_isGoodResult 1 = .ok (.getfield 36, 3) := by decide +kernel
theorem dX8_isGoodResult_4 : decode cX8_isGoodResult 4 = .ok (.iconst 2, 1) := by decide +kernel
theorem dX8_isGoodResult_5 : decode cX8_isGoodResult 5 = .ok (.if_icmp .ne 9, 3) := by decide +kernel
theorem dX8_isGoodResult_8 : decode cX8_isGoodResult 8 = .ok (.iload_n 1, 1) := by decide +kernel
theorem dX8_isGoodResult_9 : decode cX8_isGoodResult 9 = .ok (.iconst 4, 1) := by decide +kernel
theorem dX8_isGoodResult_10 : decode cX8_isGoodResult 10 = .ok (.irem, 1) := by decide +kernel
theorem dX8_isGoodResult_11 : decode cX8_isGoodResult 11 = .ok (.ifCond .eq 7, 3) := by decide +kernel
theorem dX8_isGoodResult_14 : decode cX8_isGoodResult 14 = .ok (.iconst 1, 1) := by decide +kernel
theorem dX8_isGoodResult_15 : decode cX8_isGoodResult 15 = .ok (.goto 4, 3) := by decide +kernel
theorem dX8_isGoodResult_18 : decode cX8_isGoodResult 18 = .ok (.iconst 0, 1) := by decide +kernel
theorem dX8_isGoodResult_19 : decode cX8_isGoodResult 19 = .ok (.ireturn, 1) := by decide +kernel
theorem dX8_failsAt_0 : decode cX8_failsAt 0 = .ok (.aload_n 0, 1) := by decide +kernel
theorem dX8_failsAt_1 : decode cX8_failsAt 1 = .ok (.iload_n 2, 1) := by decide +kernel
theorem dX8_failsAt_2 : decode cX8_failsAt 2 = .ok (.invokevirtual 71, 3) := by decide +kernel
theorem dX8_failsAt_5 : decode cX8_failsAt 5 = .ok (.ifCond .eq 17, 3) := by decide +kernel
theorem dX8_failsAt_8 : decode cX8_failsAt 8 = .ok (.iconst 3, 1) := by decide +kernel
theorem dX8_failsAt_9 : decode cX8_failsAt 9 = .ok (.iload_n 1, 1) := by decide +kernel
theorem dX8_failsAt_10 : decode cX8_failsAt 10 = .ok (.imul, 1) := by decide +kernel
theorem dX8_failsAt_11 : decode cX8_failsAt 11 = .ok (.iload_n 2, 1) := by decide +kernel
theorem dX8_failsAt_12 : decode cX8_failsAt 12 = .ok (.iadd, 1) := by decide +kernel
theorem dX8_failsAt_13 : decode cX8_failsAt 13 = .ok (.iconst 5, 1) := by decide +kernel
theorem dX8_failsAt_14 : decode cX8_failsAt 14 = .ok (.irem, 1) := by decide +kernel
theorem dX8_failsAt_15 : decode cX8_failsAt 15 = .ok (.aload_n 0, 1) := by decide +kernel
theorem dX8_failsAt_16 : decode cX8_failsAt 16 = .ok (.getfield 51, 3) := by decide +kernel
theorem dX8_failsAt_19 : decode cX8_failsAt 19 = .ok (.if_icmp .ge 7, 3) := by decide +kernel
theorem dX8_failsAt_22 : decode cX8_failsAt 22 = .ok (.iconst 1, 1) := by decide +kernel
theorem dX8_failsAt_23 : decode cX8_failsAt 23 = .ok (.goto 4, 3) := by decide +kernel
theorem dX8_failsAt_26 : decode cX8_failsAt 26 = .ok (.iconst 0, 1) := by decide +kernel
theorem dX8_failsAt_27 : decode cX8_failsAt 27 = .ok (.ireturn, 1) := by decide +kernel
theorem dX8_noteFlakeIn_0 : decode cX8_noteFlakeIn 0 = .ok (.aload_n 0, 1) := by decide +kernel
theorem dX8_noteFlakeIn_1 : decode cX8_noteFlakeIn 1 = .ok (.getfield 75, 3) := by decide +kernel
theorem dX8_noteFlakeIn_4 : decode cX8_noteFlakeIn 4 = .ok (.iload_n 1, 1) := by decide +kernel
theorem dX8_noteFlakeIn_5 : decode cX8_noteFlakeIn 5 = .ok (.if_icmp .eq 18, 3) := by decide +kernel
theorem dX8_noteFlakeIn_8 : decode cX8_noteFlakeIn 8 = .ok (.aload_n 0, 1) := by decide +kernel
theorem dX8_noteFlakeIn_9 : decode cX8_noteFlakeIn 9 = .ok (.iload_n 1, 1) := by decide +kernel
theorem dX8_noteFlakeIn_10 : decode cX8_noteFlakeIn 10 = .ok (.putfield 75, 3) := by decide +kernel
theorem dX8_noteFlakeIn_13 : decode cX8_noteFlakeIn 13 = .ok (.aload_n 0, 1) := by decide +kernel
theorem dX8_noteFlakeIn_14 : decode cX8_noteFlakeIn 14 = .ok (.dup, 1) := by decide +kernel
theorem dX8_noteFlakeIn_15 : decode cX8_noteFlakeIn 15 = .ok (.getfield 78, 3) := by decide +kernel
theorem dX8_noteFlakeIn_18 : decode cX8_noteFlakeIn 18 = .ok (.iconst 1, 1) := by decide +kernel
theorem dX8_noteFlakeIn_19 : decode cX8_noteFlakeIn 19 = .ok (.iadd, 1) := by decide +kernel
theorem dX8_noteFlakeIn_20 : decode cX8_noteFlakeIn 20 = .ok (.putfield 78, 3) := by decide +kernel
theorem dX8_noteFlakeIn_23 : decode cX8_noteFlakeIn 23 = .ok (.return_, 1) := by decide +kernel
theorem dX8_isInQuarantine_0 : decode cX8_isInQuarantine 0 = .ok (.aload_n 0, 1) := by decide +kernel
theorem dX8_isInQuarantine_1 : decode cX8_isInQuarantine 1 = .ok (.getfield 78, 3) := by decide +kernel
theorem dX8_isInQuarantine_4 : decode cX8_isInQuarantine 4 = .ok (.iconst 1, 1) := by decide +kernel
theorem dX8_isInQuarantine_5 : decode cX8_isInQuarantine 5 = .ok (.if_icmp .le 7, 3) := by decide +kernel
theorem dX8_isInQuarantine_8 : decode cX8_isInQuarantine 8 = .ok (.iconst 1, 1) := by decide +kernel
theorem dX8_isInQuarantine_9 : decode cX8_isInQuarantine 9 = .ok (.goto 4, 3) := by decide +kernel
theorem dX8_isInQuarantine_12 : decode cX8_isInQuarantine 12 = .ok (.iconst 0, 1) := by decide +kernel
theorem dX8_isInQuarantine_13 : decode cX8_isInQuarantine 13 = .ok (.ireturn, 1) := by decide +kernel
theorem dX8_digestOfResults_0 : decode cX8_digestOfResults 0 = .ok (.bipush 7, 2) := by decide +kernel
theorem dX8_digestOfResults_2 : decode cX8_digestOfResults 2 = .ok (.istore_n 1, 1) := by decide +kernel
theorem dX8_digestOfResults_3 : decode cX8_digestOfResults 3 = .ok (.iconst 0, 1) := by decide +kernel
theorem dX8_digestOfResults_4 : decode cX8_digestOfResults 4 = .ok (.istore_n 2, 1) := by decide +kernel
theorem dX8_digestOfResults_5 : decode cX8_digestOfResults 5 = .ok (.iload_n 2, 1) := by decide +kernel
theorem dX8_digestOfResults_6 : decode cX8_digestOfResults 6 = .ok (.aload_n 0, 1) := by decide +kernel
theorem dX8_digestOfResults_7 : decode cX8_digestOfResults 7 = .ok (.getfield 45, 3) := by decide +kernel
theorem dX8_digestOfResults_10 : decode cX8_digestOfResults 10 = .ok (.if_icmp .ge 22, 3) := by decide +kernel
theorem dX8_digestOfResults_13 : decode cX8_digestOfResults 13 = .ok (.iload_n 1, 1) := by decide +kernel
theorem dX8_digestOfResults_14 : decode cX8_digestOfResults 14 = .ok (.aload_n 0, 1) := by decide +kernel
theorem dX8_digestOfResults_15 : decode cX8_digestOfResults 15 = .ok (.iload_n 2, 1) := by decide +kernel
theorem dX8_digestOfResults_16 : decode cX8_digestOfResults 16 = .ok (.invokevirtual 54, 3) := by decide +kernel
theorem dX8_digestOfResults_19 : decode cX8_digestOfResults 19 = .ok (.getfield 81, 3) := by decide +kernel
theorem dX8_digestOfResults_22 : decode cX8_digestOfResults 22 = .ok (.invokestatic 84, 3) := by decide +kernel
theorem dX8_digestOfResults_25 : decode cX8_digestOfResults 25 = .ok (.istore_n 1, 1) := by decide +kernel
theorem dX8_digestOfResults_26 : decode cX8_digestOfResults 26 = .ok (.iinc 2 1, 3) := by decide +kernel
theorem dX8_digestOfResults_29 : decode cX8_digestOfResults 29 = .ok (.goto (-24), 3) := by decide +kernel
theorem dX8_digestOfResults_32 : decode cX8_digestOfResults 32 = .ok (.iload_n 1, 1) := by decide +kernel
theorem dX8_digestOfResults_33 : decode cX8_digestOfResults 33 = .ok (.ireturn, 1) := by decide +kernel
theorem dX8_isAllDone_0 : decode cX8_isAllDone 0 = .ok (.iconst 0, 1) := by decide +kernel
theorem dX8_isAllDone_1 : decode cX8_isAllDone 1 = .ok (.istore_n 1, 1) := by decide +kernel
theorem dX8_isAllDone_2 : decode cX8_isAllDone 2 = .ok (.iload_n 1, 1) := by decide +kernel
theorem dX8_isAllDone_3 : decode cX8_isAllDone 3 = .ok (.aload_n 0, 1) := by decide +kernel
theorem dX8_isAllDone_4 : decode cX8_isAllDone 4 = .ok (.getfield 45, 3) := by decide +kernel
theorem dX8_isAllDone_7 : decode cX8_isAllDone 7 = .ok (.if_icmp .ge 23, 3) := by decide +kernel
theorem dX8_isAllDone_10 : decode cX8_isAllDone 10 = .ok (.aload_n 0, 1) := by decide +kernel
theorem dX8_isAllDone_11 : decode cX8_isAllDone 11 = .ok (.iload_n 1, 1) := by decide +kernel
theorem dX8_isAllDone_12 : decode cX8_isAllDone 12 = .ok (.invokevirtual 54, 3) := by decide +kernel
theorem dX8_isAllDone_15 : decode cX8_isAllDone 15 = .ok (.getfield 61, 3) := by decide +kernel
theorem dX8_isAllDone_18 : decode cX8_isAllDone 18 = .ok (.iconst 3, 1) := by decide +kernel
theorem dX8_isAllDone_19 : decode cX8_isAllDone 19 = .ok (.if_icmp .eq 5, 3) := by decide +kernel
theorem dX8_isAllDone_22 : decode cX8_isAllDone 22 = .ok (.iconst 0, 1) := by decide +kernel
theorem dX8_isAllDone_23 : decode cX8_isAllDone 23 = .ok (.ireturn, 1) := by decide +kernel
theorem dX8_isAllDone_24 : decode cX8_isAllDone 24 = .ok (.iinc 1 1, 3) := by decide +kernel
theorem dX8_isAllDone_27 : decode cX8_isAllDone 27 = .ok (.goto (-25), 3) := by decide +kernel
theorem dX8_isAllDone_30 : decode cX8_isAllDone 30 = .ok (.iconst 1, 1) := by decide +kernel
theorem dX8_isAllDone_31 : decode cX8_isAllDone 31 = .ok (.ireturn, 1) := by decide +kernel
theorem dX8_isSoundAlone_0 : decode cX8_isSoundAlone 0 = .ok (.iconst 0, 1) := by decide +kernel
theorem dX8_isSoundAlone_1 : decode cX8_isSoundAlone 1 = .ok (.istore_n 1, 1) := by decide +kernel
theorem dX8_isSoundAlone_2 : decode cX8_isSoundAlone 2 = .ok (.iload_n 1, 1) := by decide +kernel
theorem dX8_isSoundAlone_3 : decode cX8_isSoundAlone 3 = .ok (.aload_n 0, 1) := by decide +kernel
theorem dX8_isSoundAlone_4 : decode cX8_isSoundAlone 4 = .ok (.getfield 45, 3) := by decide +kernel
theorem dX8_isSoundAlone_7 : decode cX8_isSoundAlone 7 = .ok (.if_icmp .ge 22, 3) := by decide +kernel
theorem dX8_isSoundAlone_10 : decode cX8_isSoundAlone 10 = .ok (.aload_n 0, 1) := by decide +kernel
theorem dX8_isSoundAlone_11 : decode cX8_isSoundAlone 11 = .ok (.iload_n 1, 1) := by decide +kernel
theorem dX8_isSoundAlone_12 : decode cX8_isSoundAlone 12 = .ok (.invokevirtual 54, 3) := by decide +kernel
theorem dX8_isSoundAlone_15 : decode cX8_isSoundAlone 15 = .ok (.invokevirtual 87, 3) := by decide +kernel
theorem dX8_isSoundAlone_18 : decode cX8_isSoundAlone 18 = .ok (.ifCond .ne 5, 3) := by decide +kernel
theorem dX8_isSoundAlone_21 : decode cX8_isSoundAlone 21 = .ok (.iconst 0, 1) := by decide +kernel
theorem dX8_isSoundAlone_22 : decode cX8_isSoundAlone 22 = .ok (.ireturn, 1) := by decide +kernel
theorem dX8_isSoundAlone_23 : decode cX8_isSoundAlone 23 = .ok (.iinc 1 1, 3) := by decide +kernel
theorem dX8_isSoundAlone_26 : decode cX8_isSoundAlone 26 = .ok (.goto (-24), 3) := by decide +kernel
theorem dX8_isSoundAlone_29 : decode cX8_isSoundAlone 29 = .ok (.iconst 1, 1) := by decide +kernel
theorem dX8_isSoundAlone_30 : decode cX8_isSoundAlone 30 = .ok (.ireturn, 1) := by decide +kernel
theorem dX8_firstReady_0 : decode cX8_firstReady 0 = .ok (.iconst 0, 1) := by decide +kernel
theorem dX8_firstReady_1 : decode cX8_firstReady 1 = .ok (.istore_n 1, 1) := by decide +kernel
theorem dX8_firstReady_2 : decode cX8_firstReady 2 = .ok (.iload_n 1, 1) := by decide +kernel
theorem dX8_firstReady_3 : decode cX8_firstReady 3 = .ok (.aload_n 0, 1) := by decide +kernel
theorem dX8_firstReady_4 : decode cX8_firstReady 4 = .ok (.getfield 45, 3) := by decide +kernel
theorem dX8_firstReady_7 : decode cX8_firstReady 7 = .ok (.if_icmp .ge 25, 3) := by decide +kernel
theorem dX8_firstReady_10 : decode cX8_firstReady 10 = .ok (.aload_n 0, 1) := by decide +kernel
theorem dX8_firstReady_11 : decode cX8_firstReady 11 = .ok (.iload_n 1, 1) := by decide +kernel
theorem dX8_firstReady_12 : decode cX8_firstReady 12 = .ok (.invokevirtual 54, 3) := by decide +kernel
theorem dX8_firstReady_15 : decode cX8_firstReady 15 = .ok (.astore_n 2, 1) := by decide +kernel
theorem dX8_firstReady_16 : decode cX8_firstReady 16 = .ok (.aload_n 2, 1) := by decide +kernel
theorem dX8_firstReady_17 : decode cX8_firstReady 17 = .ok (.getfield 61, 3) := by decide +kernel
theorem dX8_firstReady_20 : decode cX8_firstReady 20 = .ok (.iconst 1, 1) := by decide +kernel
theorem dX8_firstReady_21 : decode cX8_firstReady 21 = .ok (.if_icmp .ne 5, 3) := by decide +kernel
theorem dX8_firstReady_24 : decode cX8_firstReady 24 = .ok (.aload_n 2, 1) := by decide +kernel
theorem dX8_firstReady_25 : decode cX8_firstReady 25 = .ok (.areturn, 1) := by decide +kernel
theorem dX8_firstReady_26 : decode cX8_firstReady 26 = .ok (.iinc 1 1, 3) := by decide +kernel
theorem dX8_firstReady_29 : decode cX8_firstReady 29 = .ok (.goto (-27), 3) := by decide +kernel
theorem dX8_firstReady_32 : decode cX8_firstReady 32 = .ok (.aconst_null, 1) := by decide +kernel
theorem dX8_firstReady_33 : decode cX8_firstReady 33 = .ok (.areturn, 1) := by decide +kernel
theorem dX9_init_0 : decode cX9_init 0 = .ok (.aload_n 0, 1) := by decide +kernel
theorem dX9_init_1 : decode cX9_init 1 = .ok (.invokespecial 3, 3) := by decide +kernel
theorem dX9_init_4 : decode cX9_init 4 = .ok (.aload_n 0, 1) := by decide +kernel
theorem dX9_init_5 : decode cX9_init 5 = .ok (.bipush 14, 2) := by decide +kernel
theorem dX9_init_7 : decode cX9_init 7 = .ok (.newarray .int, 2) := by decide +kernel
theorem dX9_init_9 : decode cX9_init 9 = .ok (.putfield 9, 3) := by decide +kernel
theorem dX9_init_12 : decode cX9_init 12 = .ok (.aload_n 0, 1) := by decide +kernel
theorem dX9_init_13 : decode cX9_init 13 = .ok (.aload_n 1, 1) := by decide +kernel
theorem dX9_init_14 : decode cX9_init 14 = .ok (.putfield 15, 3) := by decide +kernel
theorem dX9_init_17 : decode cX9_init 17 = .ok (.aload_n 0, 1) := by decide +kernel
theorem dX9_init_18 : decode cX9_init 18 = .ok (.aload_n 2, 1) := by decide +kernel
theorem dX9_init_19 : decode cX9_init 19 = .ok (.putfield 18, 3) := by decide +kernel
theorem dX9_init_22 : decode cX9_init 22 = .ok (.return_, 1) := by decide +kernel
theorem dX9_keyOf_0 : decode cX9_keyOf 0 = .ok (.bipush 7, 2) := by decide +kernel
theorem dX9_keyOf_2 : decode cX9_keyOf 2 = .ok (.aload_n 1, 1) := by decide +kernel
theorem dX9_keyOf_3 : decode cX9_keyOf 3 = .ok (.getfield 21, 3) := by decide +kernel
theorem dX9_keyOf_6 : decode cX9_keyOf 6 = .ok (.invokestatic 27, 3) := by decide +kernel
theorem dX9_keyOf_9 : decode cX9_keyOf 9 = .ok (.istore_n 3, 1) := by decide +kernel
theorem dX9_keyOf_10 : decode cX9_keyOf 10 = .ok (.iload_n 3, 1) := by decide +kernel
theorem dX9_keyOf_11 : decode cX9_keyOf 11 = .ok (.aload_n 1, 1) := by decide +kernel
theorem dX9_keyOf_12 : decode cX9_keyOf 12 = .ok (.getfield 31, 3) := by decide +kernel
theorem dX9_keyOf_15 : decode cX9_keyOf 15 = .ok (.invokestatic 27, 3) := by decide +kernel
theorem dX9_keyOf_18 : decode cX9_keyOf 18 = .ok (.istore_n 3, 1) := by decide +kernel
theorem dX9_keyOf_19 : decode cX9_keyOf 19 = .ok (.iload_n 3, 1) := by decide +kernel
theorem dX9_keyOf_20 : decode cX9_keyOf 20 = .ok (.aload_n 0, 1) := by decide +kernel
theorem dX9_keyOf_21 : decode cX9_keyOf 21 = .ok (.getfield 15, 3) := by decide +kernel
theorem dX9_keyOf_24 : decode cX9_keyOf 24 = .ok (.aload_n 1, 1) := by decide +kernel
theorem dX9_keyOf_25 : decode cX9_keyOf 25 = .ok (.getfield 31, 3) := by decide +kernel
theorem dX9_keyOf_28 : decode cX9_keyOf 28 = .ok (.invokestatic 34, 3) := by decide +kernel
theorem dX9_keyOf_31 : decode cX9_keyOf 31 = .ok (.invokestatic 27, 3) := by decide +kernel
theorem dX9_keyOf_34 : decode cX9_keyOf 34 = .ok (.istore_n 3, 1) := by decide +kernel
theorem dX9_keyOf_35 : decode cX9_keyOf 35 = .ok (.iload_n 3, 1) := by decide +kernel
theorem dX9_keyOf_36 : decode cX9_keyOf 36 = .ok (.aload_n 1, 1) := by decide +kernel
theorem dX9_keyOf_37 : decode cX9_keyOf 37 = .ok (.getfield 38, 3) := by decide +kernel
theorem dX9_keyOf_40 : decode cX9_keyOf 40 = .ok (.invokestatic 27, 3) := by decide +kernel
theorem dX9_keyOf_43 : decode cX9_keyOf 43 = .ok (.istore_n 3, 1) := by decide +kernel
theorem dX9_keyOf_44 : decode cX9_keyOf 44 = .ok (.iload_n 3, 1) := by decide +kernel
theorem dX9_keyOf_45 : decode cX9_keyOf 45 = .ok (.iload_n 2, 1) := by decide +kernel
theorem dX9_keyOf_46 : decode cX9_keyOf 46 = .ok (.invokestatic 27, 3) := by decide +kernel
theorem dX9_keyOf_49 : decode cX9_keyOf 49 = .ok (.istore_n 3, 1) := by decide +kernel
theorem dX9_keyOf_50 : decode cX9_keyOf 50 = .ok (.iconst 0, 1) := by decide +kernel
theorem dX9_keyOf_51 : decode cX9_keyOf 51 = .ok (.istore 4, 2) := by decide +kernel
theorem dX9_keyOf_53 : decode cX9_keyOf 53 = .ok (.iload 4, 2) := by decide +kernel
theorem dX9_keyOf_55 : decode cX9_keyOf 55 = .ok (.aload_n 1, 1) := by decide +kernel
theorem dX9_keyOf_56 : decode cX9_keyOf 56 = .ok (.getfield 41, 3) := by decide +kernel
theorem dX9_keyOf_59 : decode cX9_keyOf 59 = .ok (.getfield 45, 3) := by decide +kernel
theorem dX9_keyOf_62 : decode cX9_keyOf 62 = .ok (.if_icmp .ge 57, 3) := by decide +kernel
theorem dX9_keyOf_65 : decode cX9_keyOf 65 = .ok (.aload_n 1, 1) := by decide +kernel
theorem dX9_keyOf_66 : decode cX9_keyOf 66 = .ok (.getfield 41, 3) := by decide +kernel
theorem dX9_keyOf_69 : decode cX9_keyOf 69 = .ok (.iload 4, 2) := by decide +kernel
theorem dX9_keyOf_71 : decode cX9_keyOf 71 = .ok (.invokevirtual 50, 3) := by decide +kernel
theorem dX9_keyOf_74 : decode cX9_keyOf 74 = .ok (.istore 5, 2) := by decide +kernel
theorem dX9_keyOf_76 : decode cX9_keyOf 76 = .ok (.iload_n 3, 1) := by decide +kernel
theorem dX9_keyOf_77 : decode cX9_keyOf 77 = .ok (.iload 5, 2) := by decide +kernel
theorem dX9_keyOf_79 : decode cX9_keyOf 79 = .ok (.invokestatic 54, 3) := by decide +kernel
theorem dX9_keyOf_82 : decode cX9_keyOf 82 = .ok (.ifCond .eq 18, 3) := by decide +kernel
theorem dX9_keyOf_85 : decode cX9_keyOf 85 = .ok (.aload_n 0, 1) := by decide +kernel
theorem dX9_keyOf_86 : decode cX9_keyOf 86 = .ok (.getfield 9, 3) := by decide +kernel
theorem dX9_keyOf_89 : decode cX9_keyOf 89 = .ok (.iload 5, 2) := by decide +kernel
theorem dX9_keyOf_91 : decode cX9_keyOf 91 = .ok (.bipush 16, 2) := by decide +kernel
theorem dX9_keyOf_93 : decode cX9_keyOf 93 = .ok (.isub, 1) := by decide +kernel
theorem dX9_keyOf_94 : decode cX9_keyOf 94 = .ok (.invokestatic 34, 3) := by decide +kernel
theorem dX9_keyOf_97 : decode cX9_keyOf 97 = .ok (.goto 12, 3) := by decide +kernel
theorem dX9_keyOf_100 : decode cX9_keyOf 100 = .ok (.aload_n 0, 1) := by decide +kernel
theorem dX9_keyOf_101 : decode cX9_keyOf 101 = .ok (.getfield 18, 3) := by decide +kernel
theorem dX9_keyOf_104 : decode cX9_keyOf 104 = .ok (.iload 5, 2) := by decide +kernel
theorem dX9_keyOf_106 : decode cX9_keyOf 106 = .ok (.invokestatic 34, 3) := by decide +kernel
theorem dX9_keyOf_109 : decode cX9_keyOf 109 = .ok (.invokestatic 27, 3) := by decide +kernel
theorem dX9_keyOf_112 : decode cX9_keyOf 112 = .ok (.istore_n 3, 1) := by decide +kernel
theorem dX9_keyOf_113 : decode cX9_keyOf 113 = .ok (.iinc 4 1, 3) := by decide +kernel
theorem dX9_keyOf_116 : decode cX9_keyOf 116 = .ok (.goto (-63), 3) := by decide +kernel
theorem dX9_keyOf_119 : decode cX9_keyOf 119 = .ok (.iload_n 3, 1) := by decide +kernel
theorem dX9_keyOf_120 : decode cX9_keyOf 120 = .ok (.ireturn, 1) := by decide +kernel
theorem dX9_contentFound_0 : decode cX9_contentFound 0 = .ok (.aload_n 0, 1) := by decide +kernel
theorem dX9_contentFound_1 : decode cX9_contentFound 1 = .ok (.getfield 18, 3) := by decide +kernel
theorem dX9_contentFound_4 : decode cX9_contentFound 4 = .ok (.aload_n 1, 1) := by decide +kernel
theorem dX9_contentFound_5 : decode cX9_contentFound 5 = .ok (.iload_n 2, 1) := by decide +kernel
theorem dX9_contentFound_6 : decode cX9_contentFound 6 = .ok (.invokevirtual 58, 3) := by decide +kernel
theorem dX9_contentFound_9 : decode cX9_contentFound 9 = .ok (.invokestatic 34, 3) := by decide +kernel
theorem dX9_contentFound_12 : decode cX9_contentFound 12 = .ok (.ireturn, 1) := by decide +kernel
theorem dX10_init_0 : decode cX10_init 0 = .ok (.aload_n 0, 1) := by decide +kernel
theorem dX10_init_1 : decode cX10_init 1 = .ok (.invokespecial 3, 3) := by decide +kernel
theorem dX10_init_4 : decode cX10_init 4 = .ok (.aload_n 0, 1) := by decide +kernel
theorem dX10_init_5 : decode cX10_init 5 = .ok (.iconst (-1), 1) := by decide +kernel
theorem dX10_init_6 : decode cX10_init 6 = .ok (.putfield 9, 3) := by decide +kernel
theorem dX10_init_9 : decode cX10_init 9 = .ok (.aload_n 0, 1) := by decide +kernel
theorem dX10_init_10 : decode cX10_init 10 = .ok (.iload_n 1, 1) := by decide +kernel
theorem dX10_init_11 : decode cX10_init 11 = .ok (.putfield 15, 3) := by decide +kernel
theorem dX10_init_14 : decode cX10_init 14 = .ok (.aload_n 0, 1) := by decide +kernel
theorem dX10_init_15 : decode cX10_init 15 = .ok (.iload_n 2, 1) := by decide +kernel
theorem dX10_init_16 : decode cX10_init 16 = .ok (.putfield 18, 3) := by decide +kernel
theorem dX10_init_19 : decode cX10_init 19 = .ok (.return_, 1) := by decide +kernel
theorem dX10_isIdle_0 : decode cX10_isIdle 0 = .ok (.aload_n 0, 1) := by decide +kernel
theorem dX10_isIdle_1 : decode cX10_isIdle 1 = .ok (.getfield 18, 3) := by decide +kernel
theorem dX10_isIdle_4 : decode cX10_isIdle 4 = .ok (.ifCond .le 14, 3) := by decide +kernel
theorem dX10_isIdle_7 : decode cX10_isIdle 7 = .ok (.aload_n 0, 1) := by decide +kernel
theorem dX10_isIdle_8 : decode cX10_isIdle 8 = .ok (.getfield 21, 3) := by decide +kernel
theorem dX10_isIdle_11 : decode cX10_isIdle 11 = .ok (.ifnonnull 7, 3) := by decide +kernel
theorem dX10_isIdle_14 : decode cX10_isIdle 14 = .ok (.iconst 1, 1) := by decide +kernel
theorem dX10_isIdle_15 : decode cX10_isIdle 15 = .ok (.goto 4, 3) := by decide +kernel
theorem dX10_isIdle_18 : decode cX10_isIdle 18 = .ok (.iconst 0, 1) := by decide +kernel
theorem dX10_isIdle_19 : decode cX10_isIdle 19 = .ok (.ireturn, 1) := by decide +kernel
theorem dX10_hasEnded_0 : decode cX10_hasEnded 0 = .ok (.aload_n 0, 1) := by decide +kernel
theorem dX10_hasEnded_1 : decode cX10_hasEnded 1 = .ok (.getfield 21, 3) := by decide +kernel
theorem dX10_hasEnded_4 : decode cX10_hasEnded 4 = .ok (.ifnull 14, 3) := by decide +kernel
theorem dX10_hasEnded_7 : decode cX10_hasEnded 7 = .ok (.aload_n 0, 1) := by decide +kernel
theorem dX10_hasEnded_8 : decode cX10_hasEnded 8 = .ok (.getfield 25, 3) := by decide +kernel
theorem dX10_hasEnded_11 : decode cX10_hasEnded 11 = .ok (.ifCond .gt 7, 3) := by decide +kernel
theorem dX10_hasEnded_14 : decode cX10_hasEnded 14 = .ok (.iconst 1, 1) := by decide +kernel
theorem dX10_hasEnded_15 : decode cX10_hasEnded 15 = .ok (.goto 4, 3) := by decide +kernel
theorem dX10_hasEnded_18 : decode cX10_hasEnded 18 = .ok (.iconst 0, 1) := by decide +kernel
theorem dX10_hasEnded_19 : decode cX10_hasEnded 19 = .ok (.ireturn, 1) := by decide +kernel
theorem dX10_start_0 : decode cX10_start 0 = .ok (.aload_n 0, 1) := by decide +kernel
theorem dX10_start_1 : decode cX10_start 1 = .ok (.aload_n 1, 1) := by decide +kernel
theorem dX10_start_2 : decode cX10_start 2 = .ok (.putfield 21, 3) := by decide +kernel
theorem dX10_start_5 : decode cX10_start 5 = .ok (.aload_n 0, 1) := by decide +kernel
theorem dX10_start_6 : decode cX10_start 6 = .ok (.iload_n 3, 1) := by decide +kernel
theorem dX10_start_7 : decode cX10_start 7 = .ok (.putfield 28, 3) := by decide +kernel
theorem dX10_start_10 : decode cX10_start 10 = .ok (.aload_n 0, 1) := by decide +kernel
theorem dX10_start_11 : decode cX10_start 11 = .ok (.iload 4, 2) := by decide +kernel
theorem dX10_start_13 : decode cX10_start 13 = .ok (.putfield 31, 3) := by decide +kernel
theorem dX10_start_16 : decode cX10_start 16 = .ok (.aload_n 0, 1) := by decide +kernel
theorem dX10_start_17 : decode cX10_start 17 = .ok (.aload_n 0, 1) := by decide +kernel
theorem dX10_start_18 : decode cX10_start 18 = .ok (.aload_n 2, 1) := by decide +kernel
theorem dX10_start_19 : decode cX10_start 19 = .ok (.invokevirtual 34, 3) := by decide +kernel
theorem dX10_start_22 : decode cX10_start 22 = .ok (.putfield 38, 3) := by decide +kernel
theorem dX10_start_25 : decode cX10_start 25 = .ok (.aload_n 0, 1) := by decide +kernel
theorem dX10_start_26 : decode cX10_start 26 = .ok (.aload_n 0, 1) := by decide +kernel
theorem dX10_start_27 : decode cX10_start 27 = .ok (.getfield 38, 3) := by decide +kernel
theorem dX10_start_30 : decode cX10_start 30 = .ok (.putfield 25, 3) := by decide +kernel
theorem dX10_start_33 : decode cX10_start 33 = .ok (.return_, 1) := by decide +kernel
theorem dX10_ticksFor_0 : decode cX10_ticksFor 0 = .ok (.aload_n 0, 1) := by decide +kernel
theorem dX10_ticksFor_1 : decode cX10_ticksFor 1 = .ok (.getfield 18, 3) := by decide +kernel
theorem dX10_ticksFor_4 : decode cX10_ticksFor 4 = .ok (.ifCond .gt 5, 3) := by decide +kernel
theorem dX10_ticksFor_7 : decode cX10_ticksFor 7 = .ok (.iconst 1, 1) := by decide +kernel
theorem dX10_ticksFor_8 : decode cX10_ticksFor 8 = .ok (.ireturn, 1) := by decide +kernel
theorem dX10_ticksFor_9 : decode cX10_ticksFor 9 = .ok (.aload_n 1, 1) := by decide +kernel
theorem dX10_ticksFor_10 : decode cX10_ticksFor 10 = .ok (.invokevirtual 41, 3) := by decide +kernel
theorem dX10_ticksFor_13 : decode cX10_ticksFor 13 = .ok (.aload_n 0, 1) := by decide +kernel
theorem dX10_ticksFor_14 : decode cX10_ticksFor 14 = .ok (.getfield 18, 3) := by decide +kernel
theorem dX10_ticksFor_17 : decode cX10_ticksFor 17 = .ok (.iadd, 1) := by decide +kernel
theorem dX10_ticksFor_18 : decode cX10_ticksFor 18 = .ok (.iconst 1, 1) := by decide +kernel
theorem dX10_ticksFor_19 : decode cX10_ticksFor 19 = .ok (.isub, 1) := by decide +kernel
theorem dX10_ticksFor_20 : decode cX10_ticksFor 20 = .ok (.aload_n 0, 1) := by decide +kernel
theorem dX10_ticksFor_21 : decode cX10_ticksFor 21 = .ok (.getfield 18, 3) := by decide +kernel
theorem dX10_ticksFor_24 : decode cX10_ticksFor 24 = .ok (.idiv, 1) := by decide +kernel
theorem dX10_ticksFor_25 : decode cX10_ticksFor 25 = .ok (.istore_n 2, 1) := by decide +kernel
theorem dX10_ticksFor_26 : decode cX10_ticksFor 26 = .ok (.aload_n 0, 1) := by decide +kernel
theorem dX10_ticksFor_27 : decode cX10_ticksFor 27 = .ok (.getfield 9, 3) := by decide +kernel
theorem dX10_ticksFor_30 : decode cX10_ticksFor 30 = .ok (.aload_n 1, 1) := by decide +kernel
theorem dX10_ticksFor_31 : decode cX10_ticksFor 31 = .ok (.getfield 47, 3) := by decide +kernel
theorem dX10_ticksFor_34 : decode cX10_ticksFor 34 = .ok (.if_icmp .ne 13, 3) := by decide +kernel
theorem dX10_ticksFor_37 : decode cX10_ticksFor 37 = .ok (.iconst 1, 1) := by decide +kernel
theorem dX10_ticksFor_38 : decode cX10_ticksFor 38 = .ok (.iload_n 2, 1) := by decide +kernel
theorem dX10_ticksFor_39 : decode cX10_ticksFor 39 = .ok (.iconst 2, 1) := by decide +kernel
theorem dX10_ticksFor_40 : decode cX10_ticksFor 40 = .ok (.isub, 1) := by decide +kernel
theorem dX10_ticksFor_41 : decode cX10_ticksFor 41 = .ok (.invokestatic 50, 3) := by decide +kernel
theorem dX10_ticksFor_44 : decode cX10_ticksFor 44 = .ok (.goto 4, 3) := by decide +kernel
theorem dX10_ticksFor_47 : decode cX10_ticksFor 47 = .ok (.iload_n 2, 1) := by decide +kernel
theorem dX10_ticksFor_48 : decode cX10_ticksFor 48 = .ok (.ireturn, 1) := by decide +kernel
theorem dX10_spendTick_0 : decode cX10_spendTick 0 = .ok (.aload_n 0, 1) := by decide +kernel
theorem dX10_spendTick_1 : decode cX10_spendTick 1 = .ok (.getfield 21, 3) := by decide +kernel
theorem dX10_spendTick_4 : decode cX10_spendTick 4 = .ok (.ifnull 13, 3) := by decide +kernel
theorem dX10_spendTick_7 : decode cX10_spendTick 7 = .ok (.aload_n 0, 1) := by decide +kernel
theorem dX10_spendTick_8 : decode cX10_spendTick 8 = .ok (.dup, 1) := by decide +kernel
theorem dX10_spendTick_9 : decode cX10_spendTick 9 = .ok (.getfield 25, 3) := by decide +kernel
theorem dX10_spendTick_12 : decode cX10_spendTick 12 = .ok (.iconst 1, 1) := by decide +kernel
theorem dX10_spendTick_13 : decode cX10_spendTick 13 = .ok (.isub, 1) := by decide +kernel
theorem dX10_spendTick_14 : decode cX10_spendTick 14 = .ok (.putfield 25, 3) := by decide +kernel
theorem dX10_spendTick_17 : decode cX10_spendTick 17 = .ok (.return_, 1) := by decide +kernel
theorem dX10_resultMade_0 : decode cX10_resultMade 0 = .ok (.aload_n 0, 1) := by decide +kernel
theorem dX10_resultMade_1 : decode cX10_resultMade 1 = .ok (.getfield 28, 3) := by decide +kernel
theorem dX10_resultMade_4 : decode cX10_resultMade 4 = .ok (.aload_n 0, 1) := by decide +kernel
theorem dX10_resultMade_5 : decode cX10_resultMade 5 = .ok (.getfield 31, 3) := by decide +kernel
theorem dX10_resultMade_8 : decode cX10_resultMade 8 = .ok (.invokestatic 56, 3) := by decide +kernel
theorem dX10_resultMade_11 : decode cX10_resultMade 11 = .ok (.ireturn, 1) := by decide +kernel
theorem dX10_beganWith_0 : decode cX10_beganWith 0 = .ok (.aload_n 0, 1) := by decide +kernel
theorem dX10_beganWith_1 : decode cX10_beganWith 1 = .ok (.getfield 28, 3) := by decide +kernel
theorem dX10_beganWith_4 : decode cX10_beganWith 4 = .ok (.iload_n 1, 1) := by decide +kernel
theorem dX10_beganWith_5 : decode cX10_beganWith 5 = .ok (.if_icmp .ne 15, 3) := by decide +kernel
theorem dX10_beganWith_8 : decode cX10_beganWith 8 = .ok (.aload_n 0, 1) := by decide +kernel
theorem dX10_beganWith_9 : decode cX10_beganWith 9 = .ok (.getfield 31, 3) := by decide +kernel
theorem dX10_beganWith_12 : decode cX10_beganWith 12 = .ok (.iload_n 2, 1) := by decide +kernel
theorem dX10_beganWith_13 : decode cX10_beganWith 13 = .ok (.if_icmp .ne 7, 3) := by decide +kernel
theorem dX10_beganWith_16 : decode cX10_beganWith 16 = .ok (.iconst 1, 1) := by decide +kernel
theorem dX10_beganWith_17 : decode cX10_beganWith 17 = .ok (.goto 4, 3) := by decide +kernel
theorem dX10_beganWith_20 : decode cX10_beganWith 20 = .ok (.iconst 0, 1) := by decide +kernel
theorem dX10_beganWith_21 : decode cX10_beganWith 21 = .ok (.ireturn, 1) := by decide +kernel
theorem dX10_rest_0 : decode cX10_rest 0 = .ok (.aload_n 0, 1) := by decide +kernel
theorem dX10_rest_1 : decode cX10_rest 1 = .ok (.aconst_null, 1) := by decide +kernel
theorem dX10_rest_2 : decode cX10_rest 2 = .ok (.putfield 21, 3) := by decide +kernel
theorem dX10_rest_5 : decode cX10_rest 5 = .ok (.aload_n 0, 1) := by decide +kernel
theorem dX10_rest_6 : decode cX10_rest 6 = .ok (.iload_n 1, 1) := by decide +kernel
theorem dX10_rest_7 : decode cX10_rest 7 = .ok (.putfield 9, 3) := by decide +kernel
theorem dX10_rest_10 : decode cX10_rest 10 = .ok (.return_, 1) := by decide +kernel
theorem dJ9_floorMod_7cf53_0 : decode cJ9_floorMod_7cf53 0 = .ok (.iload_n 0, 1) := by decide +kernel
theorem dJ9_floorMod_7cf53_1 : decode cJ9_floorMod_7cf53 1 = .ok (.iload_n 1, 1) := by decide +kernel
theorem dJ9_floorMod_7cf53_2 : decode cJ9_floorMod_7cf53 2 = .ok (.irem, 1) := by decide +kernel
theorem dJ9_floorMod_7cf53_3 : decode cJ9_floorMod_7cf53 3 = .ok (.istore_n 2, 1) := by decide +kernel
theorem dJ9_floorMod_7cf53_4 : decode cJ9_floorMod_7cf53 4 = .ok (.iload_n 0, 1) := by decide +kernel
theorem dJ9_floorMod_7cf53_5 : decode cJ9_floorMod_7cf53 5 = .ok (.iload_n 1, 1) := by decide +kernel
theorem dJ9_floorMod_7cf53_6 : decode cJ9_floorMod_7cf53 6 = .ok (.ixor, 1) := by decide +kernel
theorem dJ9_floorMod_7cf53_7 : decode cJ9_floorMod_7cf53 7 = .ok (.ifCond .ge 11, 3) := by decide +kernel
theorem dJ9_floorMod_7cf53_10 : decode cJ9_floorMod_7cf53 10 = .ok (.iload_n 2, 1) := by decide +kernel
theorem dJ9_floorMod_7cf53_11 : decode cJ9_floorMod_7cf53 11 = .ok (.ifCond .eq 7, 3) := by decide +kernel
theorem dJ9_floorMod_7cf53_14 : decode cJ9_floorMod_7cf53 14 = .ok (.iload_n 2, 1) := by decide +kernel
theorem dJ9_floorMod_7cf53_15 : decode cJ9_floorMod_7cf53 15 = .ok (.iload_n 1, 1) := by decide +kernel
theorem dJ9_floorMod_7cf53_16 : decode cJ9_floorMod_7cf53 16 = .ok (.iadd, 1) := by decide +kernel
theorem dJ9_floorMod_7cf53_17 : decode cJ9_floorMod_7cf53 17 = .ok (.ireturn, 1) := by decide +kernel
theorem dJ9_floorMod_7cf53_18 : decode cJ9_floorMod_7cf53 18 = .ok (.iload_n 2, 1) := by decide +kernel
theorem dJ9_floorMod_7cf53_19 : decode cJ9_floorMod_7cf53 19 = .ok (.ireturn, 1) := by decide +kernel
theorem dJ9_max_7cf53_0 : decode cJ9_max_7cf53 0 = .ok (.iload_n 0, 1) := by decide +kernel
theorem dJ9_max_7cf53_1 : decode cJ9_max_7cf53 1 = .ok (.iload_n 1, 1) := by decide +kernel
theorem dJ9_max_7cf53_2 : decode cJ9_max_7cf53 2 = .ok (.if_icmp .lt 7, 3) := by decide +kernel
theorem dJ9_max_7cf53_5 : decode cJ9_max_7cf53 5 = .ok (.iload_n 0, 1) := by decide +kernel
theorem dJ9_max_7cf53_6 : decode cJ9_max_7cf53 6 = .ok (.goto 4, 3) := by decide +kernel
theorem dJ9_max_7cf53_9 : decode cJ9_max_7cf53 9 = .ok (.iload_n 1, 1) := by decide +kernel
theorem dJ9_max_7cf53_10 : decode cJ9_max_7cf53 10 = .ok (.ireturn, 1) := by decide +kernel
