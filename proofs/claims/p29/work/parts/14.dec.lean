theorem dX11_init_0 : decode cX11_init 0 = .ok (.aload_n 0, 1) := by decide +kernel
theorem dX11_init_1 : decode cX11_init 1 = .ok (.invokespecial 1, 3) := by decide +kernel
theorem dX11_init_4 : decode cX11_init 4 = .ok (.aload_n 0, 1) := by decide +kernel
theorem dX11_init_5 : decode cX11_init 5 = .ok (.new 7, 3) := by decide +kernel
theorem dX11_init_8 : decode cX11_init 8 = .ok (.dup, 1) := by decide +kernel
theorem dX11_init_9 : decode cX11_init 9 = .ok (.invokespecial 9, 3) := by decide +kernel
theorem dX11_init_12 : decode cX11_init 12 = .ok (.putfield 10, 3) := by decide +kernel
theorem dX11_init_15 : decode cX11_init 15 = .ok (.aload_n 0, 1) := by decide +kernel
theorem dX11_init_16 : decode cX11_init 16 = .ok (.new 16, 3) := by decide +kernel
theorem dX11_init_19 : decode cX11_init 19 = .ok (.dup, 1) := by decide +kernel
theorem dX11_init_20 : decode cX11_init 20 = .ok (.aload_n 0, 1) := by decide +kernel
theorem dX11_init_21 : decode cX11_init 21 = .ok (.getfield 10, 3) := by decide +kernel
theorem dX11_init_24 : decode cX11_init 24 = .ok (.getfield 18, 3) := by decide +kernel
theorem dX11_init_27 : decode cX11_init 27 = .ok (.invokespecial 22, 3) := by decide +kernel
theorem dX11_init_30 : decode cX11_init 30 = .ok (.putfield 25, 3) := by decide +kernel
theorem dX11_init_33 : decode cX11_init 33 = .ok (.aload_n 0, 1) := by decide +kernel
theorem dX11_init_34 : decode cX11_init 34 = .ok (.new 29, 3) := by decide +kernel
theorem dX11_init_37 : decode cX11_init 37 = .ok (.dup, 1) := by decide +kernel
theorem dX11_init_38 : decode cX11_init 38 = .ok (.invokespecial 31, 3) := by decide +kernel
theorem dX11_init_41 : decode cX11_init 41 = .ok (.putfield 32, 3) := by decide +kernel
theorem dX11_init_44 : decode cX11_init 44 = .ok (.aload_n 0, 1) := by decide +kernel
theorem dX11_init_45 : decode cX11_init 45 = .ok (.new 36, 3) := by decide +kernel
theorem dX11_init_48 : decode cX11_init 48 = .ok (.dup, 1) := by decide +kernel
theorem dX11_init_49 : decode cX11_init 49 = .ok (.aload_n 0, 1) := by decide +kernel
theorem dX11_init_50 : decode cX11_init 50 = .ok (.getfield 25, 3) := by decide +kernel
theorem dX11_init_53 : decode cX11_init 53 = .ok (.aload_n 0, 1) := by decide +kernel
theorem dX11_init_54 : decode cX11_init 54 = .ok (.getfield 32, 3) := by decide +kernel
theorem dX11_init_57 : decode cX11_init 57 = .ok (.new 38, 3) := by decide +kernel
theorem dX11_init_60 : decode cX11_init 60 = .ok (.dup, 1) := by decide +kernel
theorem dX11_init_61 : decode cX11_init 61 = .ok (.aload_n 0, 1) := by decide +kernel
theorem dX11_init_62 : decode cX11_init 62 = .ok (.getfield 10, 3) := by decide +kernel
theorem dX11_init_65 : decode cX11_init 65 = .ok (.getfield 40, 3) := by decide +kernel
theorem dX11_init_68 : decode cX11_init 68 = .ok (.aload_n 0, 1) := by decide +kernel
theorem dX11_init_69 : decode cX11_init 69 = .ok (.getfield 10, 3) := by decide +kernel
theorem dX11_init_72 : decode cX11_init 72 = .ok (.getfield 43, 3) := by decide +kernel
theorem dX11_init_75 : decode cX11_init 75 = .ok (.invokespecial 46, 3) := by decide +kernel
theorem dX11_init_78 : decode cX11_init 78 = .ok (.invokespecial 49, 3) := by decide +kernel
theorem dX11_init_81 : decode cX11_init 81 = .ok (.putfield 52, 3) := by decide +kernel
theorem dX11_init_84 : decode cX11_init 84 = .ok (.aload_n 0, 1) := by decide +kernel
theorem dX11_init_85 : decode cX11_init 85 = .ok (.new 56, 3) := by decide +kernel
theorem dX11_init_88 : decode cX11_init 88 = .ok (.dup, 1) := by decide +kernel
theorem dX11_init_89 : decode cX11_init 89 = .ok (.aload_n 0, 1) := by decide +kernel
theorem dX11_init_90 : decode cX11_init 90 = .ok (.getfield 25, 3) := by decide +kernel
theorem dX11_init_93 : decode cX11_init 93 = .ok (.aload_n 0, 1) := by decide +kernel
theorem dX11_init_94 : decode cX11_init 94 = .ok (.getfield 10, 3) := by decide +kernel
theorem dX11_init_97 : decode cX11_init 97 = .ok (.invokespecial 58, 3) := by decide +kernel
theorem dX11_init_100 : decode cX11_init 100 = .ok (.putfield 61, 3) := by decide +kernel
theorem dX11_init_103 : decode cX11_init 103 = .ok (.return_, 1) := by decide +kernel
theorem dX11_write_0 : decode cX11_write 0 = .ok (.iload_n 1, 1) := by decide +kernel
theorem dX11_write_1 : decode cX11_write 1 = .ok (.bipush 16, 2) := by decide +kernel
theorem dX11_write_3 : decode cX11_write 3 = .ok (.invokestatic 65, 3) := by decide +kernel
theorem dX11_write_6 : decode cX11_write 6 = .ok (.ifCond .eq 17, 3) := by decide +kernel
theorem dX11_write_9 : decode cX11_write 9 = .ok (.iload_n 2, 1) := by decide +kernel
theorem dX11_write_10 : decode cX11_write 10 = .ok (.sipush 1000, 3) := by decide +kernel
theorem dX11_write_13 : decode cX11_write 13 = .ok (.invokestatic 65, 3) := by decide +kernel
theorem dX11_write_16 : decode cX11_write 16 = .ok (.ifCond .eq 7, 3) := by decide +kernel
theorem dX11_write_19 : decode cX11_write 19 = .ok (.iconst 1, 1) := by decide +kernel
theorem dX11_write_20 : decode cX11_write 20 = .ok (.goto 4, 3) := by decide +kernel
theorem dX11_write_23 : decode cX11_write 23 = .ok (.iconst 0, 1) := by decide +kernel
theorem dX11_write_24 : decode cX11_write 24 = .ok (.invokestatic 69, 3) := by decide +kernel
theorem dX11_write_27 : decode cX11_write 27 = .ok (.aload_n 0, 1) := by decide +kernel
theorem dX11_write_28 : decode cX11_write 28 = .ok (.getfield 10, 3) := by decide +kernel
theorem dX11_write_31 : decode cX11_write 31 = .ok (.iload_n 1, 1) := by decide +kernel
theorem dX11_write_32 : decode cX11_write 32 = .ok (.iload_n 2, 1) := by decide +kernel
theorem dX11_write_33 : decode cX11_write 33 = .ok (.invokevirtual 73, 3) := by decide +kernel
theorem dX11_write_36 : decode cX11_write 36 = .ok (.ireturn, 1) := by decide +kernel
theorem dX11_set_0 : decode cX11_set 0 = .ok (.iload_n 1, 1) := by decide +kernel
theorem dX11_set_1 : decode cX11_set 1 = .ok (.iconst 4, 1) := by decide +kernel
theorem dX11_set_2 : decode cX11_set 2 = .ok (.invokestatic 65, 3) := by decide +kernel
theorem dX11_set_5 : decode cX11_set 5 = .ok (.ifCond .eq 16, 3) := by decide +kernel
theorem dX11_set_8 : decode cX11_set 8 = .ok (.iload_n 2, 1) := by decide +kernel
theorem dX11_set_9 : decode cX11_set 9 = .ok (.bipush 10, 2) := by decide +kernel
theorem dX11_set_11 : decode cX11_set 11 = .ok (.invokestatic 65, 3) := by decide +kernel
theorem dX11_set_14 : decode cX11_set 14 = .ok (.ifCond .eq 7, 3) := by decide +kernel
theorem dX11_set_17 : decode cX11_set 17 = .ok (.iconst 1, 1) := by decide +kernel
theorem dX11_set_18 : decode cX11_set 18 = .ok (.goto 4, 3) := by decide +kernel
theorem dX11_set_21 : decode cX11_set 21 = .ok (.iconst 0, 1) := by decide +kernel
theorem dX11_set_22 : decode cX11_set 22 = .ok (.invokestatic 69, 3) := by decide +kernel
theorem dX11_set_25 : decode cX11_set 25 = .ok (.aload_n 0, 1) := by decide +kernel
theorem dX11_set_26 : decode cX11_set 26 = .ok (.getfield 52, 3) := by decide +kernel
theorem dX11_set_29 : decode cX11_set 29 = .ok (.getfield 77, 3) := by decide +kernel
theorem dX11_set_32 : decode cX11_set 32 = .ok (.ifCond .ne 7, 3) := by decide +kernel
theorem dX11_set_35 : decode cX11_set 35 = .ok (.iconst 1, 1) := by decide +kernel
theorem dX11_set_36 : decode cX11_set 36 = .ok (.goto 4, 3) := by decide +kernel
theorem dX11_set_39 : decode cX11_set 39 = .ok (.iconst 0, 1) := by decide +kernel
theorem dX11_set_40 : decode cX11_set 40 = .ok (.invokestatic 81, 3) := by decide +kernel
theorem dX11_set_43 : decode cX11_set 43 = .ok (.aload_n 0, 1) := by decide +kernel
theorem dX11_set_44 : decode cX11_set 44 = .ok (.getfield 10, 3) := by decide +kernel
theorem dX11_set_47 : decode cX11_set 47 = .ok (.getfield 18, 3) := by decide +kernel
theorem dX11_set_50 : decode cX11_set 50 = .ok (.iload_n 1, 1) := by decide +kernel
theorem dX11_set_51 : decode cX11_set 51 = .ok (.iload_n 2, 1) := by decide +kernel
theorem dX11_set_52 : decode cX11_set 52 = .ok (.invokestatic 84, 3) := by decide +kernel
theorem dX11_set_55 : decode cX11_set 55 = .ok (.ireturn, 1) := by decide +kernel
theorem dX11_setTool_0 : decode cX11_setTool 0 = .ok (.iload_n 1, 1) := by decide +kernel
theorem dX11_setTool_1 : decode cX11_setTool 1 = .ok (.iconst 4, 1) := by decide +kernel
theorem dX11_setTool_2 : decode cX11_setTool 2 = .ok (.invokestatic 65, 3) := by decide +kernel
theorem dX11_setTool_5 : decode cX11_setTool 5 = .ok (.ifCond .eq 16, 3) := by decide +kernel
theorem dX11_setTool_8 : decode cX11_setTool 8 = .ok (.iload_n 2, 1) := by decide +kernel
theorem dX11_setTool_9 : decode cX11_setTool 9 = .ok (.bipush 10, 2) := by decide +kernel
theorem dX11_setTool_11 : decode cX11_setTool 11 = .ok (.invokestatic 65, 3) := by decide +kernel
theorem dX11_setTool_14 : decode cX11_setTool 14 = .ok (.ifCond .eq 7, 3) := by decide +kernel
theorem dX11_setTool_17 : decode cX11_setTool 17 = .ok (.iconst 1, 1) := by decide +kernel
theorem dX11_setTool_18 : decode cX11_setTool 18 = .ok (.goto 4, 3) := by decide +kernel
theorem dX11_setTool_21 : decode cX11_setTool 21 = .ok (.iconst 0, 1) := by decide +kernel
theorem dX11_setTool_22 : decode cX11_setTool 22 = .ok (.invokestatic 69, 3) := by decide +kernel
theorem dX11_setTool_25 : decode cX11_setTool 25 = .ok (.aload_n 0, 1) := by decide +kernel
theorem dX11_setTool_26 : decode cX11_setTool 26 = .ok (.getfield 52, 3) := by decide +kernel
theorem dX11_setTool_29 : decode cX11_setTool 29 = .ok (.getfield 77, 3) := by decide +kernel
theorem dX11_setTool_32 : decode cX11_setTool 32 = .ok (.ifCond .ne 7, 3) := by decide +kernel
theorem dX11_setTool_35 : decode cX11_setTool 35 = .ok (.iconst 1, 1) := by decide +kernel
theorem dX11_setTool_36 : decode cX11_setTool 36 = .ok (.goto 4, 3) := by decide +kernel
theorem dX11_setTool_39 : decode cX11_setTool 39 = .ok (.iconst 0, 1) := by decide +kernel
theorem dX11_setTool_40 : decode cX11_setTool 40 = .ok (.invokestatic 81, 3) := by decide +kernel
theorem dX11_setTool_43 : decode cX11_setTool 43 = .ok (.aload_n 0, 1) := by decide +kernel
theorem dX11_setTool_44 : decode cX11_setTool 44 = .ok (.getfield 10, 3) := by decide +kernel
theorem dX11_setTool_47 : decode cX11_setTool 47 = .ok (.getfield 40, 3) := by decide +kernel
theorem dX11_setTool_50 : decode cX11_setTool 50 = .ok (.iload_n 1, 1) := by decide +kernel
theorem dX11_setTool_51 : decode cX11_setTool 51 = .ok (.iload_n 2, 1) := by decide +kernel
theorem dX11_setTool_52 : decode cX11_setTool 52 = .ok (.invokestatic 84, 3) := by decide +kernel
theorem dX11_setTool_55 : decode cX11_setTool 55 = .ok (.ireturn, 1) := by decide +kernel
theorem dX11_input_0 : decode cX11_input 0 = .ok (.iload_n 1, 1) := by decide +kernel
theorem dX11_input_1 : decode cX11_input 1 = .ok (.ifCond .lt 12, 3) := by decide +kernel
theorem dX11_input_4 : decode cX11_input 4 = .ok (.iload_n 2, 1) := by decide +kernel
theorem dX11_input_5 : decode cX11_input 5 = .ok (.iconst (-1), 1) := by decide +kernel
theorem dX11_input_6 : decode cX11_input 6 = .ok (.if_icmp .lt 7, 3) := by decide +kernel
theorem dX11_input_9 : decode cX11_input 9 = .ok (.iconst 1, 1) := by decide +kernel
theorem dX11_input_10 : decode cX11_input 10 = .ok (.goto 4, 3) := by decide +kernel
theorem dX11_input_13 : decode cX11_input 13 = .ok (.iconst 0, 1) := by decide +kernel
theorem dX11_input_14 : decode cX11_input 14 = .ok (.invokestatic 69, 3) := by decide +kernel
theorem dX11_input_17 : decode cX11_input 17 = .ok (.iload_n 2, 1) := by decide +kernel
theorem dX11_input_18 : decode cX11_input 18 = .ok (.iconst (-1), 1) := by decide +kernel
theorem dX11_input_19 : decode cX11_input 19 = .ok (.if_icmp .ne 23, 3) := by decide +kernel
theorem dX11_input_22 : decode cX11_input 22 = .ok (.iload_n 3, 1) := by decide +kernel
theorem dX11_input_23 : decode cX11_input 23 = .ok (.ifCond .ne 12, 3) := by decide +kernel
theorem dX11_input_26 : decode cX11_input 26 = .ok (.iload 4, 2) := by decide +kernel
theorem dX11_input_28 : decode cX11_input 28 = .ok (.ifCond .ne 7, 3) := by decide +kernel
theorem dX11_input_31 : decode cX11_input 31 = .ok (.iconst 1, 1) := by decide +kernel
theorem dX11_input_32 : decode cX11_input 32 = .ok (.goto 4, 3) := by decide +kernel
theorem dX11_input_35 : decode cX11_input 35 = .ok (.iconst 0, 1) := by decide +kernel
theorem dX11_input_36 : decode cX11_input 36 = .ok (.invokestatic 69, 3) := by decide +kernel
theorem dX11_input_39 : decode cX11_input 39 = .ok (.goto 29, 3) := by decide +kernel
theorem dX11_input_42 : decode cX11_input 42 = .ok (.iload_n 3, 1) := by decide +kernel
theorem dX11_input_43 : decode cX11_input 43 = .ok (.iconst 4, 1) := by decide +kernel
theorem dX11_input_44 : decode cX11_input 44 = .ok (.invokestatic 65, 3) := by decide +kernel
theorem dX11_input_47 : decode cX11_input 47 = .ok (.ifCond .eq 17, 3) := by decide +kernel
theorem dX11_input_50 : decode cX11_input 50 = .ok (.iload 4, 2) := by decide +kernel
theorem dX11_input_52 : decode cX11_input 52 = .ok (.bipush 10, 2) := by decide +kernel
theorem dX11_input_54 : decode cX11_input 54 = .ok (.invokestatic 65, 3) := by decide +kernel
theorem dX11_input_57 : decode cX11_input 57 = .ok (.ifCond .eq 7, 3) := by decide +kernel
theorem dX11_input_60 : decode cX11_input 60 = .ok (.iconst 1, 1) := by decide +kernel
theorem dX11_input_61 : decode cX11_input 61 = .ok (.goto 4, 3) := by decide +kernel
theorem dX11_input_64 : decode cX11_input 64 = .ok (.iconst 0, 1) := by decide +kernel
theorem dX11_input_65 : decode cX11_input 65 = .ok (.invokestatic 69, 3) := by decide +kernel
theorem dX11_input_68 : decode cX11_input 68 = .ok (.aload_n 0, 1) := by decide +kernel
theorem dX11_input_69 : decode cX11_input 69 = .ok (.iload_n 1, 1) := by decide +kernel
theorem dX11_input_70 : decode cX11_input 70 = .ok (.invokevirtual 88, 3) := by decide +kernel
theorem dX11_input_73 : decode cX11_input 73 = .ok (.aload_n 0, 1) := by decide +kernel
theorem dX11_input_74 : decode cX11_input 74 = .ok (.iload_n 2, 1) := by decide +kernel
theorem dX11_input_75 : decode cX11_input 75 = .ok (.invokevirtual 88, 3) := by decide +kernel
theorem dX11_input_78 : decode cX11_input 78 = .ok (.aload_n 0, 1) := by decide +kernel
theorem dX11_input_79 : decode cX11_input 79 = .ok (.getfield 25, 3) := by decide +kernel
theorem dX11_input_82 : decode cX11_input 82 = .ok (.getfield 92, 3) := by decide +kernel
theorem dX11_input_85 : decode cX11_input 85 = .ok (.getfield 96, 3) := by decide +kernel
theorem dX11_input_88 : decode cX11_input 88 = .ok (.iconst 4, 1) := by decide +kernel
theorem dX11_input_89 : decode cX11_input 89 = .ok (.if_icmp .ge 7, 3) := by decide +kernel
theorem dX11_input_92 : decode cX11_input 92 = .ok (.iconst 1, 1) := by decide +kernel
theorem dX11_input_93 : decode cX11_input 93 = .ok (.goto 4, 3) := by decide +kernel
theorem dX11_input_96 : decode cX11_input 96 = .ok (.iconst 0, 1) := by decide +kernel
theorem dX11_input_97 : decode cX11_input 97 = .ok (.invokestatic 81, 3) := by decide +kernel
theorem dX11_input_100 : decode cX11_input 100 = .ok (.aload_n 0, 1) := by decide +kernel
theorem dX11_input_101 : decode cX11_input 101 = .ok (.getfield 25, 3) := by decide +kernel
theorem dX11_input_104 : decode cX11_input 104 = .ok (.getfield 92, 3) := by decide +kernel
theorem dX11_input_107 : decode cX11_input 107 = .ok (.iload_n 1, 1) := by decide +kernel
theorem dX11_input_108 : decode cX11_input 108 = .ok (.iload_n 2, 1) := by decide +kernel
theorem dX11_input_109 : decode cX11_input 109 = .ok (.iload_n 3, 1) := by decide +kernel
theorem dX11_input_110 : decode cX11_input 110 = .ok (.iload 4, 2) := by decide +kernel
theorem dX11_input_112 : decode cX11_input 112 = .ok (.invokevirtual 102, 3) := by decide +kernel
theorem dX11_input_115 : decode cX11_input 115 = .ok (.ireturn, 1) := by decide +kernel
theorem dX11_target_0 : decode cX11_target 0 = .ok (.iload_n 1, 1) := by decide +kernel
theorem dX11_target_1 : decode cX11_target 1 = .ok (.iconst 3, 1) := by decide +kernel
theorem dX11_target_2 : decode cX11_target 2 = .ok (.invokestatic 65, 3) := by decide +kernel
theorem dX11_target_5 : decode cX11_target 5 = .ok (.ifCond .eq 24, 3) := by decide +kernel
theorem dX11_target_8 : decode cX11_target 8 = .ok (.iload_n 2, 1) := by decide +kernel
theorem dX11_target_9 : decode cX11_target 9 = .ok (.iconst 4, 1) := by decide +kernel
theorem dX11_target_10 : decode cX11_target 10 = .ok (.invokestatic 65, 3) := by decide +kernel
theorem dX11_target_13 : decode cX11_target 13 = .ok (.ifCond .eq 16, 3) := by decide +kernel
theorem dX11_target_16 : decode cX11_target 16 = .ok (.iload_n 3, 1) := by decide +kernel
theorem dX11_target_17 : decode cX11_target 17 = .ok (.bipush 10, 2) := by decide +kernel
theorem dX11_target_19 : decode cX11_target 19 = .ok (.invokestatic 65, 3) := by decide +kernel
theorem dX11_target_22 : decode cX11_target 22 = .ok (.ifCond .eq 7, 3) := by decide +kernel
theorem dX11_target_25 : decode cX11_target 25 = .ok (.iconst 1, 1) := by decide +kernel
theorem dX11_target_26 : decode cX11_target 26 = .ok (.goto 4, 3) := by decide +kernel
theorem dX11_target_29 : decode cX11_target 29 = .ok (.iconst 0, 1) := by decide +kernel
theorem dX11_target_30 : decode cX11_target 30 = .ok (.invokestatic 69, 3) := by decide +kernel
theorem dX11_target_33 : decode cX11_target 33 = .ok (.iload 4, 2) := by decide +kernel
theorem dX11_target_35 : decode cX11_target 35 = .ok (.iconst 1, 1) := by decide +kernel
theorem dX11_target_36 : decode cX11_target 36 = .ok (.if_icmp .lt 22, 3) := by decide +kernel
theorem dX11_target_39 : decode cX11_target 39 = .ok (.iload 4, 2) := by decide +kernel
theorem dX11_target_41 : decode cX11_target 41 = .ok (.iload_n 1, 1) := by decide +kernel
theorem dX11_target_42 : decode cX11_target 42 = .ok (.iconst 2, 1) := by decide +kernel
theorem dX11_target_43 : decode cX11_target 43 = .ok (.if_icmp .ne 7, 3) := by decide +kernel
theorem dX11_target_46 : decode cX11_target 46 = .ok (.iconst 4, 1) := by decide +kernel
theorem dX11_target_47 : decode cX11_target 47 = .ok (.goto 4, 3) := by decide +kernel
theorem dX11_target_50 : decode cX11_target 50 = .ok (.iconst 1, 1) := by decide +kernel
theorem dX11_target_51 : decode cX11_target 51 = .ok (.if_icmp .gt 7, 3) := by decide +kernel
theorem dX11_target_54 : decode cX11_target 54 = .ok (.iconst 1, 1) := by decide +kernel
theorem dX11_target_55 : decode cX11_target 55 = .ok (.goto 4, 3) := by decide +kernel
theorem dX11_target_58 : decode cX11_target 58 = .ok (.iconst 0, 1) := by decide +kernel
theorem dX11_target_59 : decode cX11_target 59 = .ok (.invokestatic 69, 3) := by decide +kernel
theorem dX11_target_62 : decode cX11_target 62 = .ok (.iload 5, 2) := by decide +kernel
theorem dX11_target_64 : decode cX11_target 64 = .ok (.iconst (-1), 1) := by decide +kernel
theorem dX11_target_65 : decode cX11_target 65 = .ok (.if_icmp .eq 13, 3) := by decide +kernel
theorem dX11_target_68 : decode cX11_target 68 = .ok (.iload 5, 2) := by decide +kernel
theorem dX11_target_70 : decode cX11_target 70 = .ok (.ldc 106, 2) := by decide +kernel
theorem dX11_target_72 : decode cX11_target 72 = .ok (.invokestatic 65, 3) := by decide +kernel
theorem dX11_target_75 : decode cX11_target 75 = .ok (.ifCond .eq 7, 3) := by decide +kernel
theorem dX11_target_78 : decode cX11_target 78 = .ok (.iconst 1, 1) := by decide +kernel
theorem dX11_target_79 : decode cX11_target 79 = .ok (.goto 4, 3) := by decide +kernel
theorem dX11_target_82 : decode cX11_target 82 = .ok (.iconst 0, 1) := by decide +kernel
theorem dX11_target_83 : decode cX11_target 83 = .ok (.invokestatic 69, 3) := by decide +kernel
theorem dX11_target_86 : decode cX11_target 86 = .ok (.iload 6, 2) := by decide +kernel
theorem dX11_target_88 : decode cX11_target 88 = .ok (.iload_n 1, 1) := by decide +kernel
theorem dX11_target_89 : decode cX11_target 89 = .ok (.iconst 2, 1) := by decide +kernel
theorem dX11_target_90 : decode cX11_target 90 = .ok (.if_icmp .ne 7, 3) := by decide +kernel
theorem dX11_target_93 : decode cX11_target 93 = .ok (.iconst 4, 1) := by decide +kernel
theorem dX11_target_94 : decode cX11_target 94 = .ok (.goto 4, 3) := by decide +kernel
theorem dX11_target_97 : decode cX11_target 97 = .ok (.iconst 1, 1) := by decide +kernel
theorem dX11_target_98 : decode cX11_target 98 = .ok (.invokestatic 65, 3) := by decide +kernel
theorem dX11_target_101 : decode cX11_target 101 = .ok (.invokestatic 69, 3) := by decide +kernel
theorem dX11_target_104 : decode cX11_target 104 = .ok (.aload_n 0, 1) := by decide +kernel
theorem dX11_target_105 : decode cX11_target 105 = .ok (.getfield 25, 3) := by decide +kernel
theorem dX11_target_108 : decode cX11_target 108 = .ok (.getfield 92, 3) := by decide +kernel
theorem dX11_target_111 : decode cX11_target 111 = .ok (.getfield 96, 3) := by decide +kernel
theorem dX11_target_114 : decode cX11_target 114 = .ok (.ifCond .le 29, 3) := by decide +kernel
theorem dX11_target_117 : decode cX11_target 117 = .ok (.aload_n 0, 1) := by decide +kernel
theorem dX11_target_118 : decode cX11_target 118 = .ok (.getfield 52, 3) := by decide +kernel
theorem dX11_target_121 : decode cX11_target 121 = .ok (.getfield 77, 3) := by decide +kernel
theorem dX11_target_124 : decode cX11_target 124 = .ok (.ifCond .ne 19, 3) := by decide +kernel
theorem dX11_target_127 : decode cX11_target 127 = .ok (.aload_n 0, 1) := by decide +kernel
theorem dX11_target_128 : decode cX11_target 128 = .ok (.getfield 25, 3) := by decide +kernel
theorem dX11_target_131 : decode cX11_target 131 = .ok (.getfield 107, 3) := by decide +kernel
theorem dX11_target_134 : decode cX11_target 134 = .ok (.bipush 14, 2) := by decide +kernel
theorem dX11_target_136 : decode cX11_target 136 = .ok (.if_icmp .ge 7, 3) := by decide +kernel
theorem dX11_target_139 : decode cX11_target 139 = .ok (.iconst 1, 1) := by decide +kernel
theorem dX11_target_140 : decode cX11_target 140 = .ok (.goto 4, 3) := by decide +kernel
theorem dX11_target_143 : decode cX11_target 143 = .ok (.iconst 0, 1) := by decide +kernel
theorem dX11_target_144 : decode cX11_target 144 = .ok (.invokestatic 81, 3) := by decide +kernel
theorem dX11_target_147 : decode cX11_target 147 = .ok (.aload_n 0, 1) := by decide +kernel
theorem dX11_target_148 : decode cX11_target 148 = .ok (.getfield 25, 3) := by decide +kernel
theorem dX11_target_151 : decode cX11_target 151 = .ok (.invokevirtual 110, 3) := by decide +kernel
theorem dX11_target_154 : decode cX11_target 154 = .ok (.astore 7, 2) := by decide +kernel
theorem dX11_target_156 : decode cX11_target 156 = .ok (.aload 7, 2) := by decide +kernel
theorem dX11_target_158 : decode cX11_target 158 = .ok (.iload_n 1, 1) := by decide +kernel
theorem dX11_target_159 : decode cX11_target 159 = .ok (.iload_n 2, 1) := by decide +kernel
theorem dX11_target_160 : decode cX11_target 160 = .ok (.iload_n 3, 1) := by decide +kernel
theorem dX11_target_161 : decode cX11_target 161 = .ok (.iload 4, 2) := by decide +kernel
theorem dX11_target_163 : decode cX11_target 163 = .ok (.iload 5, 2) := by decide +kernel
theorem dX11_target_165 : decode cX11_target 165 = .ok (.iload 6, 2) := by decide +kernel
theorem dX11_target_167 : decode cX11_target 167 = .ok (.invokevirtual 114, 3) := by decide +kernel
theorem dX11_target_170 : decode cX11_target 170 = .ok (.aload 7, 2) := by decide +kernel
theorem dX11_target_172 : decode cX11_target 172 = .ok (.getfield 120, 3) := by decide +kernel
theorem dX11_target_175 : decode cX11_target 175 = .ok (.aload_n 0, 1) := by decide +kernel
theorem dX11_target_176 : decode cX11_target 176 = .ok (.getfield 25, 3) := by decide +kernel
theorem dX11_target_179 : decode cX11_target 179 = .ok (.getfield 92, 3) := by decide +kernel
theorem dX11_target_182 : decode cX11_target 182 = .ok (.invokevirtual 123, 3) := by decide +kernel
theorem dX11_target_185 : decode cX11_target 185 = .ok (.aload_n 0, 1) := by decide +kernel
theorem dX11_target_186 : decode cX11_target 186 = .ok (.getfield 25, 3) := by decide +kernel
theorem dX11_target_189 : decode cX11_target 189 = .ok (.getfield 92, 3) := by decide +kernel
theorem dX11_target_192 : decode cX11_target 192 = .ok (.iconst 0, 1) := by decide +kernel
theorem dX11_target_193 : decode cX11_target 193 = .ok (.putfield 96, 3) := by decide +kernel
theorem dX11_target_196 : decode cX11_target 196 = .ok (.aload 7, 2) := by decide +kernel
theorem dX11_target_198 : decode cX11_target 198 = .ok (.getfield 127, 3) := by decide +kernel
theorem dX11_target_201 : decode cX11_target 201 = .ok (.ireturn, 1) := by decide +kernel
theorem dX11_copy_0 : decode cX11_copy 0 = .ok (.aload_n 0, 1) := by decide +kernel
theorem dX11_copy_1 : decode cX11_copy 1 = .ok (.iload_n 1, 1) := by decide +kernel
theorem dX11_copy_2 : decode cX11_copy 2 = .ok (.invokevirtual 130, 3) := by decide +kernel
theorem dX11_copy_5 : decode cX11_copy 5 = .ok (.iload_n 2, 1) := by decide +kernel
theorem dX11_copy_6 : decode cX11_copy 6 = .ok (.bipush 10, 2) := by decide +kernel
theorem dX11_copy_8 : decode cX11_copy 8 = .ok (.invokestatic 65, 3) := by decide +kernel
theorem dX11_copy_11 : decode cX11_copy 11 = .ok (.invokestatic 69, 3) := by decide +kernel
theorem dX11_copy_14 : decode cX11_copy 14 = .ok (.aload_n 0, 1) := by decide +kernel
theorem dX11_copy_15 : decode cX11_copy 15 = .ok (.getfield 52, 3) := by decide +kernel
theorem dX11_copy_18 : decode cX11_copy 18 = .ok (.getfield 77, 3) := by decide +kernel
theorem dX11_copy_21 : decode cX11_copy 21 = .ok (.ifCond .ne 19, 3) := by decide +kernel
theorem dX11_copy_24 : decode cX11_copy 24 = .ok (.aload_n 0, 1) := by decide +kernel
theorem dX11_copy_25 : decode cX11_copy 25 = .ok (.getfield 25, 3) := by decide +kernel
theorem dX11_copy_28 : decode cX11_copy 28 = .ok (.getfield 107, 3) := by decide +kernel
theorem dX11_copy_31 : decode cX11_copy 31 = .ok (.bipush 14, 2) := by decide +kernel
theorem dX11_copy_33 : decode cX11_copy 33 = .ok (.if_icmp .ge 7, 3) := by decide +kernel
theorem dX11_copy_36 : decode cX11_copy 36 = .ok (.iconst 1, 1) := by decide +kernel
theorem dX11_copy_37 : decode cX11_copy 37 = .ok (.goto 4, 3) := by decide +kernel
theorem dX11_copy_40 : decode cX11_copy 40 = .ok (.iconst 0, 1) := by decide +kernel
theorem dX11_copy_41 : decode cX11_copy 41 = .ok (.invokestatic 81, 3) := by decide +kernel
theorem dX11_copy_44 : decode cX11_copy 44 = .ok (.aload_n 0, 1) := by decide +kernel
theorem dX11_copy_45 : decode cX11_copy 45 = .ok (.getfield 25, 3) := by decide +kernel
theorem dX11_copy_48 : decode cX11_copy 48 = .ok (.iload_n 1, 1) := by decide +kernel
theorem dX11_copy_49 : decode cX11_copy 49 = .ok (.invokevirtual 133, 3) := by decide +kernel
theorem dX11_copy_52 : decode cX11_copy 52 = .ok (.astore_n 3, 1) := by decide +kernel
theorem dX11_copy_53 : decode cX11_copy 53 = .ok (.aload_n 0, 1) := by decide +kernel
theorem dX11_copy_54 : decode cX11_copy 54 = .ok (.getfield 25, 3) := by decide +kernel
theorem dX11_copy_57 : decode cX11_copy 57 = .ok (.invokevirtual 110, 3) := by decide +kernel
theorem dX11_copy_60 : decode cX11_copy 60 = .ok (.astore 4, 2) := by decide +kernel
theorem dX11_copy_62 : decode cX11_copy 62 = .ok (.aload 4, 2) := by decide +kernel
theorem dX11_copy_64 : decode cX11_copy 64 = .ok (.aload_n 3, 1) := by decide +kernel
theorem dX11_copy_65 : decode cX11_copy 65 = .ok (.getfield 137, 3) := by decide +kernel
theorem dX11_copy_68 : decode cX11_copy 68 = .ok (.aload_n 3, 1) := by decide +kernel
theorem dX11_copy_69 : decode cX11_copy 69 = .ok (.getfield 140, 3) := by decide +kernel
theorem dX11_copy_72 : decode cX11_copy 72 = .ok (.iload_n 2, 1) := by decide +kernel
theorem dX11_copy_73 : decode cX11_copy 73 = .ok (.aload_n 3, 1) := by decide +kernel
theorem dX11_copy_74 : decode cX11_copy 74 = .ok (.getfield 143, 3) := by decide +kernel
theorem dX11_copy_77 : decode cX11_copy 77 = .ok (.aload_n 3, 1) := by decide +kernel
theorem dX11_copy_78 : decode cX11_copy 78 = .ok (.getfield 146, 3) := by decide +kernel
theorem dX11_copy_81 : decode cX11_copy 81 = .ok (.aload_n 3, 1) := by decide +kernel
theorem dX11_copy_82 : decode cX11_copy 82 = .ok (.getfield 149, 3) := by decide +kernel
theorem dX11_copy_85 : decode cX11_copy 85 = .ok (.invokevirtual 114, 3) := by decide +kernel
theorem dX11_copy_88 : decode cX11_copy 88 = .ok (.aload 4, 2) := by decide +kernel
theorem dX11_copy_90 : decode cX11_copy 90 = .ok (.getfield 120, 3) := by decide +kernel
theorem dX11_copy_93 : decode cX11_copy 93 = .ok (.aload_n 3, 1) := by decide +kernel
theorem dX11_copy_94 : decode cX11_copy 94 = .ok (.getfield 120, 3) := by decide +kernel
theorem dX11_copy_97 : decode cX11_copy 97 = .ok (.invokevirtual 123, 3) := by decide +kernel
theorem dX11_copy_100 : decode cX11_copy 100 = .ok (.aload 4, 2) := by decide +kernel
theorem dX11_copy_102 : decode cX11_copy 102 = .ok (.getfield 127, 3) := by decide +kernel
theorem dX11_copy_105 : decode cX11_copy 105 = .ok (.ireturn, 1) := by decide +kernel
theorem dX11_setPower_0 : decode cX11_setPower 0 = .ok (.iload_n 1, 1) := by decide +kernel
theorem dX11_setPower_1 : decode cX11_setPower 1 = .ok (.iconst 4, 1) := by decide +kernel
theorem dX11_setPower_2 : decode cX11_setPower 2 = .ok (.invokestatic 65, 3) := by decide +kernel
theorem dX11_setPower_5 : decode cX11_setPower 5 = .ok (.ifCond .eq 16, 3) := by decide +kernel
theorem dX11_setPower_8 : decode cX11_setPower 8 = .ok (.iload_n 2, 1) := by decide +kernel
theorem dX11_setPower_9 : decode cX11_setPower 9 = .ok (.bipush 10, 2) := by decide +kernel
theorem dX11_setPower_11 : decode cX11_setPower 11 = .ok (.invokestatic 65, 3) := by decide +kernel
theorem dX11_setPower_14 : decode cX11_setPower 14 = .ok (.ifCond .eq 7, 3) := by decide +kernel
theorem dX11_setPower_17 : decode cX11_setPower 17 = .ok (.iconst 1, 1) := by decide +kernel
theorem dX11_setPower_18 : decode cX11_setPower 18 = .ok (.goto 4, 3) := by decide +kernel
theorem dX11_setPower_21 : decode cX11_setPower 21 = .ok (.iconst 0, 1) := by decide +kernel
theorem dX11_setPower_22 : decode cX11_setPower 22 = .ok (.invokestatic 69, 3) := by decide +kernel
theorem dX11_setPower_25 : decode cX11_setPower 25 = .ok (.aload_n 0, 1) := by decide +kernel
theorem dX11_setPower_26 : decode cX11_setPower 26 = .ok (.getfield 52, 3) := by decide +kernel
theorem dX11_setPower_29 : decode cX11_setPower 29 = .ok (.iload_n 1, 1) := by decide +kernel
theorem dX11_setPower_30 : decode cX11_setPower 30 = .ok (.invokevirtual 152, 3) := by decide +kernel
theorem dX11_setPower_33 : decode cX11_setPower 33 = .ok (.astore_n 3, 1) := by decide +kernel
theorem dX11_setPower_34 : decode cX11_setPower 34 = .ok (.aload_n 3, 1) := by decide +kernel
theorem dX11_setPower_35 : decode cX11_setPower 35 = .ok (.getfield 156, 3) := by decide +kernel
theorem dX11_setPower_38 : decode cX11_setPower 38 = .ok (.istore 4, 2) := by decide +kernel
theorem dX11_setPower_40 : decode cX11_setPower 40 = .ok (.iload_n 2, 1) := by decide +kernel
theorem dX11_setPower_41 : decode cX11_setPower 41 = .ok (.iload 4, 2) := by decide +kernel
theorem dX11_setPower_43 : decode cX11_setPower 43 = .ok (.if_icmp .eq 12, 3) := by decide +kernel
theorem dX11_setPower_46 : decode cX11_setPower 46 = .ok (.aload_n 0, 1) := by decide +kernel
theorem dX11_setPower_47 : decode cX11_setPower 47 = .ok (.getfield 52, 3) := by decide +kernel
theorem dX11_setPower_50 : decode cX11_setPower 50 = .ok (.aload_n 3, 1) := by decide +kernel
theorem dX11_setPower_51 : decode cX11_setPower 51 = .ok (.iload_n 2, 1) := by decide +kernel
theorem dX11_setPower_52 : decode cX11_setPower 52 = .ok (.invokevirtual 161, 3) := by decide +kernel
theorem dX11_setPower_55 : decode cX11_setPower 55 = .ok (.iload 4, 2) := by decide +kernel
theorem dX11_setPower_57 : decode cX11_setPower 57 = .ok (.ireturn, 1) := by decide +kernel
theorem dX11_setWays_0 : decode cX11_setWays 0 = .ok (.aload_n 0, 1) := by decide +kernel
theorem dX11_setWays_1 : decode cX11_setWays 1 = .ok (.getfield 52, 3) := by decide +kernel
theorem dX11_setWays_4 : decode cX11_setWays 4 = .ok (.iload_n 1, 1) := by decide +kernel
theorem dX11_setWays_5 : decode cX11_setWays 5 = .ok (.putfield 165, 3) := by decide +kernel
theorem dX11_setWays_8 : decode cX11_setWays 8 = .ok (.aload_n 0, 1) := by decide +kernel
theorem dX11_setWays_9 : decode cX11_setWays 9 = .ok (.getfield 52, 3) := by decide +kernel
theorem dX11_setWays_12 : decode cX11_setWays 12 = .ok (.iload_n 2, 1) := by decide +kernel
theorem dX11_setWays_13 : decode cX11_setWays 13 = .ok (.putfield 168, 3) := by decide +kernel
theorem dX11_setWays_16 : decode cX11_setWays 16 = .ok (.return_, 1) := by decide +kernel
theorem dX11_entries_0 : decode cX11_entries 0 = .ok (.aload_n 0, 1) := by decide +kernel
theorem dX11_entries_1 : decode cX11_entries 1 = .ok (.getfield 32, 3) := by decide +kernel
theorem dX11_entries_4 : decode cX11_entries 4 = .ok (.getfield 171, 3) := by decide +kernel
theorem dX11_entries_7 : decode cX11_entries 7 = .ok (.ireturn, 1) := by decide +kernel
theorem dX11_entry_0 : decode cX11_entry 0 = .ok (.aload_n 0, 1) := by decide +kernel
theorem dX11_entry_1 : decode cX11_entry 1 = .ok (.getfield 32, 3) := by decide +kernel
theorem dX11_entry_4 : decode cX11_entry 4 = .ok (.iload_n 1, 1) := by decide +kernel
theorem dX11_entry_5 : decode cX11_entry 5 = .ok (.invokevirtual 172, 3) := by decide +kernel
theorem dX11_entry_8 : decode cX11_entry 8 = .ok (.astore_n 3, 1) := by decide +kernel
theorem dX11_entry_9 : decode cX11_entry 9 = .ok (.aload_n 3, 1) := by decide +kernel
theorem dX11_entry_10 : decode cX11_entry 10 = .ok (.ifnull 12, 3) := by decide +kernel
theorem dX11_entry_13 : decode cX11_entry 13 = .ok (.iload_n 2, 1) := by decide +kernel
theorem dX11_entry_14 : decode cX11_entry 14 = .ok (.bipush 7, 2) := by decide +kernel
theorem dX11_entry_16 : decode cX11_entry 16 = .ok (.invokestatic 65, 3) := by decide +kernel
theorem dX11_entry_19 : decode cX11_entry 19 = .ok (.ifCond .ne 13, 3) := by decide +kernel
theorem dX11_entry_22 : decode cX11_entry 22 = .ok (.new 176, 3) := by decide +kernel
theorem dX11_entry_25 : decode cX11_entry 25 = .ok (.dup, 1) := by decide +kernel
theorem dX11_entry_26 : decode cX11_entry 26 = .ok (.ldc 178, 2) := by decide +kernel
theorem dX11_entry_28 : decode cX11_entry 28 = .ok (.invokespecial 180, 3) := by decide +kernel
theorem dX11_entry_31 : decode cX11_entry 31 = .ok (.athrow, 1) := by decide +kernel
theorem dX11_entry_32 : decode cX11_entry 32 = .ok (.aload_n 3, 1) := by decide +kernel
theorem dX11_entry_33 : decode cX11_entry 33 = .ok (.iload_n 2, 1) := by decide +kernel
theorem dX11_entry_34 : decode cX11_entry 34 = .ok (.invokevirtual 183, 3) := by decide +kernel
theorem dX11_entry_37 : decode cX11_entry 37 = .ok (.ireturn, 1) := by decide +kernel
theorem dX11_build_0 : decode cX11_build 0 = .ok (.iload_n 1, 1) := by decide +kernel
theorem dX11_build_1 : decode cX11_build 1 = .ok (.ifCond .le 20, 3) := by decide +kernel
theorem dX11_build_4 : decode cX11_build 4 = .ok (.iload_n 1, 1) := by decide +kernel
theorem dX11_build_5 : decode cX11_build 5 = .ok (.iconst 1, 1) := by decide +kernel
theorem dX11_build_6 : decode cX11_build 6 = .ok (.aload_n 0, 1) := by decide +kernel
theorem dX11_build_7 : decode cX11_build 7 = .ok (.getfield 25, 3) := by decide +kernel
theorem dX11_build_10 : decode cX11_build 10 = .ok (.getfield 107, 3) := by decide +kernel
theorem dX11_build_13 : decode cX11_build 13 = .ok (.ishl, 1) := by decide +kernel
theorem dX11_build_14 : decode cX11_build 14 = .ok (.if_icmp .ge 7, 3) := by decide +kernel
theorem dX11_build_17 : decode cX11_build 17 = .ok (.iconst 1, 1) := by decide +kernel
theorem dX11_build_18 : decode cX11_build 18 = .ok (.goto 4, 3) := by decide +kernel
theorem dX11_build_21 : decode cX11_build 21 = .ok (.iconst 0, 1) := by decide +kernel
theorem dX11_build_22 : decode cX11_build 22 = .ok (.invokestatic 69, 3) := by decide +kernel
theorem dX11_build_25 : decode cX11_build 25 = .ok (.aload_n 0, 1) := by decide +kernel
theorem dX11_build_26 : decode cX11_build 26 = .ok (.getfield 52, 3) := by decide +kernel
theorem dX11_build_29 : decode cX11_build 29 = .ok (.getfield 77, 3) := by decide +kernel
theorem dX11_build_32 : decode cX11_build 32 = .ok (.ifCond .ne 7, 3) := by decide +kernel
theorem dX11_build_35 : decode cX11_build 35 = .ok (.iconst 1, 1) := by decide +kernel
theorem dX11_build_36 : decode cX11_build 36 = .ok (.goto 4, 3) := by decide +kernel
theorem dX11_build_39 : decode cX11_build 39 = .ok (.iconst 0, 1) := by decide +kernel
theorem dX11_build_40 : decode cX11_build 40 = .ok (.invokestatic 81, 3) := by decide +kernel
theorem dX11_build_43 : decode cX11_build 43 = .ok (.aload_n 0, 1) := by decide +kernel
theorem dX11_build_44 : decode cX11_build 44 = .ok (.getfield 52, 3) := by decide +kernel
theorem dX11_build_47 : decode cX11_build 47 = .ok (.iload_n 1, 1) := by decide +kernel
theorem dX11_build_48 : decode cX11_build 48 = .ok (.invokevirtual 200, 3) := by decide +kernel
theorem dX11_build_51 : decode cX11_build 51 = .ok (.ireturn, 1) := by decide +kernel
theorem dX11_pass_0 : decode cX11_pass 0 = .ok (.iload_n 1, 1) := by decide +kernel
theorem dX11_pass_1 : decode cX11_pass 1 = .ok (.iconst 1, 1) := by decide +kernel
theorem dX11_pass_2 : decode cX11_pass 2 = .ok (.if_icmp .lt 13, 3) := by decide +kernel
theorem dX11_pass_5 : decode cX11_pass 5 = .ok (.iload_n 1, 1) := by decide +kernel
theorem dX11_pass_6 : decode cX11_pass 6 = .ok (.bipush 50, 2) := by decide +kernel
theorem dX11_pass_8 : decode cX11_pass 8 = .ok (.if_icmp .gt 7, 3) := by decide +kernel
theorem dX11_pass_11 : decode cX11_pass 11 = .ok (.iconst 1, 1) := by decide +kernel
theorem dX11_pass_12 : decode cX11_pass 12 = .ok (.goto 4, 3) := by decide +kernel
theorem dX11_pass_15 : decode cX11_pass 15 = .ok (.iconst 0, 1) := by decide +kernel
theorem dX11_pass_16 : decode cX11_pass 16 = .ok (.invokestatic 69, 3) := by decide +kernel
theorem dX11_pass_19 : decode cX11_pass 19 = .ok (.iconst 0, 1) := by decide +kernel
theorem dX11_pass_20 : decode cX11_pass 20 = .ok (.istore_n 2, 1) := by decide +kernel
theorem dX11_pass_21 : decode cX11_pass 21 = .ok (.iload_n 2, 1) := by decide +kernel
theorem dX11_pass_22 : decode cX11_pass 22 = .ok (.iload_n 1, 1) := by decide +kernel
theorem dX11_pass_23 : decode cX11_pass 23 = .ok (.if_icmp .ge 36, 3) := by decide +kernel
theorem dX11_pass_26 : decode cX11_pass 26 = .ok (.aload_n 0, 1) := by decide +kernel
theorem dX11_pass_27 : decode cX11_pass 27 = .ok (.getfield 52, 3) := by decide +kernel
theorem dX11_pass_30 : decode cX11_pass 30 = .ok (.getfield 77, 3) := by decide +kernel
theorem dX11_pass_33 : decode cX11_pass 33 = .ok (.ifCond .eq 10, 3) := by decide +kernel
theorem dX11_pass_36 : decode cX11_pass 36 = .ok (.aload_n 0, 1) := by decide +kernel
theorem dX11_pass_37 : decode cX11_pass 37 = .ok (.getfield 52, 3) := by decide +kernel
theorem dX11_pass_40 : decode cX11_pass 40 = .ok (.invokevirtual 203, 3) := by decide +kernel
theorem dX11_pass_43 : decode cX11_pass 43 = .ok (.aload_n 0, 1) := by decide +kernel
theorem dX11_pass_44 : decode cX11_pass 44 = .ok (.dup, 1) := by decide +kernel
theorem dX11_pass_45 : decode cX11_pass 45 = .ok (.getfield 206, 3) := by decide +kernel
theorem dX11_pass_48 : decode cX11_pass 48 = .ok (.iconst 1, 1) := by decide +kernel
theorem dX11_pass_49 : decode cX11_pass 49 = .ok (.iadd, 1) := by decide +kernel
theorem dX11_pass_50 : decode cX11_pass 50 = .ok (.putfield 206, 3) := by decide +kernel
theorem dX11_pass_53 : decode cX11_pass 53 = .ok (.iinc 2 1, 3) := by decide +kernel
theorem dX11_pass_56 : decode cX11_pass 56 = .ok (.goto (-35), 3) := by decide +kernel
theorem dX11_pass_59 : decode cX11_pass 59 = .ok (.aload_n 0, 1) := by decide +kernel
theorem dX11_pass_60 : decode cX11_pass 60 = .ok (.getfield 206, 3) := by decide +kernel
theorem dX11_pass_63 : decode cX11_pass 63 = .ok (.ireturn, 1) := by decide +kernel
theorem dX11_goesOn_0 : decode cX11_goesOn 0 = .ok (.aload_n 0, 1) := by decide +kernel
theorem dX11_goesOn_1 : decode cX11_goesOn 1 = .ok (.getfield 52, 3) := by decide +kernel
theorem dX11_goesOn_4 : decode cX11_goesOn 4 = .ok (.getfield 77, 3) := by decide +kernel
theorem dX11_goesOn_7 : decode cX11_goesOn 7 = .ok (.ireturn, 1) := by decide +kernel
theorem dX11_state_0 : decode cX11_state 0 = .ok (.aload_n 0, 1) := by decide +kernel
theorem dX11_state_1 : decode cX11_state 1 = .ok (.iload_n 1, 1) := by decide +kernel
theorem dX11_state_2 : decode cX11_state 2 = .ok (.iload_n 2, 1) := by decide +kernel
theorem dX11_state_3 : decode cX11_state 3 = .ok (.invokevirtual 209, 3) := by decide +kernel
theorem dX11_state_6 : decode cX11_state 6 = .ok (.getfield 213, 3) := by decide +kernel
theorem dX11_state_9 : decode cX11_state 9 = .ok (.ireturn, 1) := by decide +kernel
theorem dX11_result_0 : decode cX11_result 0 = .ok (.aload_n 0, 1) := by decide +kernel
theorem dX11_result_1 : decode cX11_result 1 = .ok (.iload_n 1, 1) := by decide +kernel
theorem dX11_result_2 : decode cX11_result 2 = .ok (.iload_n 2, 1) := by decide +kernel
theorem dX11_result_3 : decode cX11_result 3 = .ok (.invokevirtual 209, 3) := by decide +kernel
theorem dX11_result_6 : decode cX11_result 6 = .ok (.astore_n 3, 1) := by decide +kernel
theorem dX11_result_7 : decode cX11_result 7 = .ok (.aload_n 3, 1) := by decide +kernel
theorem dX11_result_8 : decode cX11_result 8 = .ok (.getfield 213, 3) := by decide +kernel
theorem dX11_result_11 : decode cX11_result 11 = .ok (.iconst 3, 1) := by decide +kernel
theorem dX11_result_12 : decode cX11_result 12 = .ok (.if_icmp .ne 10, 3) := by decide +kernel
theorem dX11_result_15 : decode cX11_result 15 = .ok (.aload_n 3, 1) := by decide +kernel
theorem dX11_result_16 : decode cX11_result 16 = .ok (.getfield 218, 3) := by decide +kernel
theorem dX11_result_19 : decode cX11_result 19 = .ok (.goto 4, 3) := by decide +kernel
theorem dX11_result_22 : decode cX11_result 22 = .ok (.iconst (-1), 1) := by decide +kernel
theorem dX11_result_23 : decode cX11_result 23 = .ok (.ireturn, 1) := by decide +kernel
theorem dX11_about_0 : decode cX11_about 0 = .ok (.aload_n 0, 1) := by decide +kernel
theorem dX11_about_1 : decode cX11_about 1 = .ok (.iload_n 1, 1) := by decide +kernel
theorem dX11_about_2 : decode cX11_about 2 = .ok (.invokevirtual 130, 3) := by decide +kernel
theorem dX11_about_5 : decode cX11_about 5 = .ok (.iload_n 2, 1) := by decide +kernel
theorem dX11_about_6 : decode cX11_about 6 = .ok (.bipush 6, 2) := by decide +kernel
theorem dX11_about_8 : decode cX11_about 8 = .ok (.invokestatic 65, 3) := by decide +kernel
theorem dX11_about_11 : decode cX11_about 11 = .ok (.invokestatic 69, 3) := by decide +kernel
theorem dX11_about_14 : decode cX11_about 14 = .ok (.aload_n 0, 1) := by decide +kernel
theorem dX11_about_15 : decode cX11_about 15 = .ok (.getfield 25, 3) := by decide +kernel
theorem dX11_about_18 : decode cX11_about 18 = .ok (.iload_n 1, 1) := by decide +kernel
theorem dX11_about_19 : decode cX11_about 19 = .ok (.invokevirtual 133, 3) := by decide +kernel
theorem dX11_about_22 : decode cX11_about 22 = .ok (.astore_n 3, 1) := by decide +kernel
theorem dX11_about_23 : decode cX11_about 23 = .ok (.iload_n 2, 1) := by decide +kernel
theorem dX11_about_24 : decode cX11_about 24 = .ok (.tableswitch 106 0 4 #[36, 48, 65, 78, 97], 36) := by decide +kernel
theorem dX11_about_60 : decode cX11_about 60 = .ok (.aload_n 0, 1) := by decide +kernel
theorem dX11_about_61 : decode cX11_about 61 = .ok (.getfield 25, 3) := by decide +kernel
theorem dX11_about_64 : decode cX11_about 64 = .ok (.invokevirtual 219, 3) := by decide +kernel
theorem dX11_about_67 : decode cX11_about 67 = .ok (.iload_n 1, 1) := by decide +kernel
theorem dX11_about_68 : decode cX11_about 68 = .ok (.invokestatic 223, 3) := by decide +kernel
theorem dX11_about_71 : decode cX11_about 71 = .ok (.ireturn, 1) := by decide +kernel
theorem dX11_about_72 : decode cX11_about 72 = .ok (.aload_n 0, 1) := by decide +kernel
theorem dX11_about_73 : decode cX11_about 73 = .ok (.getfield 61, 3) := by decide +kernel
theorem dX11_about_76 : decode cX11_about 76 = .ok (.aload_n 3, 1) := by decide +kernel
theorem dX11_about_77 : decode cX11_about 77 = .ok (.invokevirtual 226, 3) := by decide +kernel
theorem dX11_about_80 : decode cX11_about 80 = .ok (.ifCond .eq 7, 3) := by decide +kernel
theorem dX11_about_83 : decode cX11_about 83 = .ok (.iconst 1, 1) := by decide +kernel
theorem dX11_about_84 : decode cX11_about 84 = .ok (.goto 4, 3) := by decide +kernel
theorem dX11_about_87 : decode cX11_about 87 = .ok (.iconst 0, 1) := by decide +kernel
theorem dX11_about_88 : decode cX11_about 88 = .ok (.ireturn, 1) := by decide +kernel
theorem dX11_about_89 : decode cX11_about 89 = .ok (.aload_n 3, 1) := by decide +kernel
theorem dX11_about_90 : decode cX11_about 90 = .ok (.invokevirtual 230, 3) := by decide +kernel
theorem dX11_about_93 : decode cX11_about 93 = .ok (.ifCond .eq 7, 3) := by decide +kernel
theorem dX11_about_96 : decode cX11_about 96 = .ok (.iconst 1, 1) := by decide +kernel
theorem dX11_about_97 : decode cX11_about 97 = .ok (.goto 4, 3) := by decide +kernel
theorem dX11_about_100 : decode cX11_about 100 = .ok (.iconst 0, 1) := by decide +kernel
theorem dX11_about_101 : decode cX11_about 101 = .ok (.ireturn, 1) := by decide +kernel
theorem dX11_about_102 : decode cX11_about 102 = .ok (.aload_n 0, 1) := by decide +kernel
theorem dX11_about_103 : decode cX11_about 103 = .ok (.getfield 61, 3) := by decide +kernel
theorem dX11_about_106 : decode cX11_about 106 = .ok (.aload_n 0, 1) := by decide +kernel
theorem dX11_about_107 : decode cX11_about 107 = .ok (.getfield 10, 3) := by decide +kernel
theorem dX11_about_110 : decode cX11_about 110 = .ok (.getfield 234, 3) := by decide +kernel
theorem dX11_about_113 : decode cX11_about 113 = .ok (.invokevirtual 237, 3) := by decide +kernel
theorem dX11_about_116 : decode cX11_about 116 = .ok (.iload_n 1, 1) := by decide +kernel
theorem dX11_about_117 : decode cX11_about 117 = .ok (.invokestatic 223, 3) := by decide +kernel
theorem dX11_about_120 : decode cX11_about 120 = .ok (.ireturn, 1) := by decide +kernel
theorem dX11_about_121 : decode cX11_about 121 = .ok (.aload_n 0, 1) := by decide +kernel
theorem dX11_about_122 : decode cX11_about 122 = .ok (.getfield 61, 3) := by decide +kernel
theorem dX11_about_125 : decode cX11_about 125 = .ok (.aload_n 3, 1) := by decide +kernel
theorem dX11_about_126 : decode cX11_about 126 = .ok (.invokevirtual 240, 3) := by decide +kernel
theorem dX11_about_129 : decode cX11_about 129 = .ok (.ireturn, 1) := by decide +kernel
theorem dX11_about_130 : decode cX11_about 130 = .ok (.aload_n 0, 1) := by decide +kernel
theorem dX11_about_131 : decode cX11_about 131 = .ok (.getfield 52, 3) := by decide +kernel
theorem dX11_about_134 : decode cX11_about 134 = .ok (.aload_n 3, 1) := by decide +kernel
theorem dX11_about_135 : decode cX11_about 135 = .ok (.invokevirtual 244, 3) := by decide +kernel
theorem dX11_about_138 : decode cX11_about 138 = .ok (.ireturn, 1) := by decide +kernel
theorem dX11_proof_0 : decode cX11_proof 0 = .ok (.aload_n 0, 1) := by decide +kernel
theorem dX11_proof_1 : decode cX11_proof 1 = .ok (.iload_n 1, 1) := by decide +kernel
theorem dX11_proof_2 : decode cX11_proof 2 = .ok (.invokevirtual 130, 3) := by decide +kernel
theorem dX11_proof_5 : decode cX11_proof 5 = .ok (.aload_n 0, 1) := by decide +kernel
theorem dX11_proof_6 : decode cX11_proof 6 = .ok (.getfield 25, 3) := by decide +kernel
theorem dX11_proof_9 : decode cX11_proof 9 = .ok (.aload_n 0, 1) := by decide +kernel
theorem dX11_proof_10 : decode cX11_proof 10 = .ok (.getfield 25, 3) := by decide +kernel
theorem dX11_proof_13 : decode cX11_proof 13 = .ok (.iconst 1, 1) := by decide +kernel
theorem dX11_proof_14 : decode cX11_proof 14 = .ok (.iload_n 1, 1) := by decide +kernel
theorem dX11_proof_15 : decode cX11_proof 15 = .ok (.ishl, 1) := by decide +kernel
theorem dX11_proof_16 : decode cX11_proof 16 = .ok (.invokevirtual 247, 3) := by decide +kernel
theorem dX11_proof_19 : decode cX11_proof 19 = .ok (.invokevirtual 250, 3) := by decide +kernel
theorem dX11_proof_22 : decode cX11_proof 22 = .ok (.invokestatic 81, 3) := by decide +kernel
theorem dX11_proof_25 : decode cX11_proof 25 = .ok (.aload_n 0, 1) := by decide +kernel
theorem dX11_proof_26 : decode cX11_proof 26 = .ok (.getfield 25, 3) := by decide +kernel
theorem dX11_proof_29 : decode cX11_proof 29 = .ok (.iload_n 1, 1) := by decide +kernel
theorem dX11_proof_30 : decode cX11_proof 30 = .ok (.invokevirtual 254, 3) := by decide +kernel
theorem dX11_proof_33 : decode cX11_proof 33 = .ok (.ireturn, 1) := by decide +kernel
theorem dX11_count_0 : decode cX11_count 0 = .ok (.iload_n 1, 1) := by decide +kernel
theorem dX11_count_1 : decode cX11_count 1 = .ok (.iconst 5, 1) := by decide +kernel
theorem dX11_count_2 : decode cX11_count 2 = .ok (.invokestatic 65, 3) := by decide +kernel
theorem dX11_count_5 : decode cX11_count 5 = .ok (.invokestatic 69, 3) := by decide +kernel
theorem dX11_count_8 : decode cX11_count 8 = .ok (.aload_n 0, 1) := by decide +kernel
theorem dX11_count_9 : decode cX11_count 9 = .ok (.getfield 52, 3) := by decide +kernel
theorem dX11_count_12 : decode cX11_count 12 = .ok (.getfield 257, 3) := by decide +kernel
theorem dX11_count_15 : decode cX11_count 15 = .ok (.iload_n 1, 1) := by decide +kernel
theorem dX11_count_16 : decode cX11_count 16 = .ok (.invokestatic 260, 3) := by decide +kernel
theorem dX11_count_19 : decode cX11_count 19 = .ok (.ireturn, 1) := by decide +kernel
theorem dX11_needed_0 : decode cX11_needed 0 = .ok (.aload_n 0, 1) := by decide +kernel
theorem dX11_needed_1 : decode cX11_needed 1 = .ok (.iload_n 1, 1) := by decide +kernel
theorem dX11_needed_2 : decode cX11_needed 2 = .ok (.invokevirtual 130, 3) := by decide +kernel
theorem dX11_needed_5 : decode cX11_needed 5 = .ok (.aload_n 0, 1) := by decide +kernel
theorem dX11_needed_6 : decode cX11_needed 6 = .ok (.getfield 25, 3) := by decide +kernel
theorem dX11_needed_9 : decode cX11_needed 9 = .ok (.iconst 1, 1) := by decide +kernel
theorem dX11_needed_10 : decode cX11_needed 10 = .ok (.iload_n 1, 1) := by decide +kernel
theorem dX11_needed_11 : decode cX11_needed 11 = .ok (.ishl, 1) := by decide +kernel
theorem dX11_needed_12 : decode cX11_needed 12 = .ok (.invokevirtual 247, 3) := by decide +kernel
theorem dX11_needed_15 : decode cX11_needed 15 = .ok (.ireturn, 1) := by decide +kernel
theorem dX11_needing_0 : decode cX11_needing 0 = .ok (.iload_n 1, 1) := by decide +kernel
theorem dX11_needing_1 : decode cX11_needing 1 = .ok (.ifCond .lt 7, 3) := by decide +kernel
theorem dX11_needing_4 : decode cX11_needing 4 = .ok (.iconst 1, 1) := by decide +kernel
theorem dX11_needing_5 : decode cX11_needing 5 = .ok (.goto 4, 3) := by decide +kernel
theorem dX11_needing_8 : decode cX11_needing 8 = .ok (.iconst 0, 1) := by decide +kernel
theorem dX11_needing_9 : decode cX11_needing 9 = .ok (.invokestatic 69, 3) := by decide +kernel
theorem dX11_needing_12 : decode cX11_needing 12 = .ok (.aload_n 0, 1) := by decide +kernel
theorem dX11_needing_13 : decode cX11_needing 13 = .ok (.iload_n 1, 1) := by decide +kernel
theorem dX11_needing_14 : decode cX11_needing 14 = .ok (.invokevirtual 88, 3) := by decide +kernel
theorem dX11_needing_17 : decode cX11_needing 17 = .ok (.aload_n 0, 1) := by decide +kernel
theorem dX11_needing_18 : decode cX11_needing 18 = .ok (.getfield 25, 3) := by decide +kernel
theorem dX11_needing_21 : decode cX11_needing 21 = .ok (.iload_n 1, 1) := by decide +kernel
theorem dX11_needing_22 : decode cX11_needing 22 = .ok (.invokevirtual 264, 3) := by decide +kernel
theorem dX11_needing_25 : decode cX11_needing 25 = .ok (.ireturn, 1) := by decide +kernel
theorem dX11_steps_0 : decode cX11_steps 0 = .ok (.aload_n 0, 1) := by decide +kernel
theorem dX11_steps_1 : decode cX11_steps 1 = .ok (.iload_n 1, 1) := by decide +kernel
theorem dX11_steps_2 : decode cX11_steps 2 = .ok (.invokevirtual 130, 3) := by decide +kernel
theorem dX11_steps_5 : decode cX11_steps 5 = .ok (.aload_n 0, 1) := by decide +kernel
theorem dX11_steps_6 : decode cX11_steps 6 = .ok (.iload_n 2, 1) := by decide +kernel
theorem dX11_steps_7 : decode cX11_steps 7 = .ok (.invokevirtual 130, 3) := by decide +kernel
theorem dX11_steps_10 : decode cX11_steps 10 = .ok (.aload_n 0, 1) := by decide +kernel
theorem dX11_steps_11 : decode cX11_steps 11 = .ok (.getfield 25, 3) := by decide +kernel
theorem dX11_steps_14 : decode cX11_steps 14 = .ok (.iload_n 1, 1) := by decide +kernel
theorem dX11_steps_15 : decode cX11_steps 15 = .ok (.iload_n 2, 1) := by decide +kernel
theorem dX11_steps_16 : decode cX11_steps 16 = .ok (.invokevirtual 267, 3) := by decide +kernel
theorem dX11_steps_19 : decode cX11_steps 19 = .ok (.ireturn, 1) := by decide +kernel
theorem dX11_bisect_0 : decode cX11_bisect 0 = .ok (.aload_n 0, 1) := by decide +kernel
theorem dX11_bisect_1 : decode cX11_bisect 1 = .ok (.iload_n 1, 1) := by decide +kernel
theorem dX11_bisect_2 : decode cX11_bisect 2 = .ok (.invokevirtual 130, 3) := by decide +kernel
theorem dX11_bisect_5 : decode cX11_bisect 5 = .ok (.aload_n 0, 1) := by decide +kernel
theorem dX11_bisect_6 : decode cX11_bisect 6 = .ok (.iconst 0, 1) := by decide +kernel
theorem dX11_bisect_7 : decode cX11_bisect 7 = .ok (.putfield 270, 3) := by decide +kernel
theorem dX11_bisect_10 : decode cX11_bisect 10 = .ok (.iconst 0, 1) := by decide +kernel
theorem dX11_bisect_11 : decode cX11_bisect 11 = .ok (.istore_n 2, 1) := by decide +kernel
theorem dX11_bisect_12 : decode cX11_bisect 12 = .ok (.aload_n 0, 1) := by decide +kernel
theorem dX11_bisect_13 : decode cX11_bisect 13 = .ok (.getfield 10, 3) := by decide +kernel
theorem dX11_bisect_16 : decode cX11_bisect 16 = .ok (.getfield 234, 3) := by decide +kernel
theorem dX11_bisect_19 : decode cX11_bisect 19 = .ok (.istore_n 3, 1) := by decide +kernel
theorem dX11_bisect_20 : decode cX11_bisect 20 = .ok (.aload_n 0, 1) := by decide +kernel
theorem dX11_bisect_21 : decode cX11_bisect 21 = .ok (.iload_n 2, 1) := by decide +kernel
theorem dX11_bisect_22 : decode cX11_bisect 22 = .ok (.iload_n 1, 1) := by decide +kernel
theorem dX11_bisect_23 : decode cX11_bisect 23 = .ok (.invokevirtual 273, 3) := by decide +kernel
theorem dX11_bisect_26 : decode cX11_bisect 26 = .ok (.ifCond .eq 12, 3) := by decide +kernel
theorem dX11_bisect_29 : decode cX11_bisect 29 = .ok (.aload_n 0, 1) := by decide +kernel
theorem dX11_bisect_30 : decode cX11_bisect 30 = .ok (.iload_n 3, 1) := by decide +kernel
theorem dX11_bisect_31 : decode cX11_bisect 31 = .ok (.iload_n 1, 1) := by decide +kernel
theorem dX11_bisect_32 : decode cX11_bisect 32 = .ok (.invokevirtual 273, 3) := by decide +kernel
theorem dX11_bisect_35 : decode cX11_bisect 35 = .ok (.ifCond .eq 5, 3) := by decide +kernel
theorem dX11_bisect_38 : decode cX11_bisect 38 = .ok (.iconst (-1), 1) := by decide +kernel
theorem dX11_bisect_39 : decode cX11_bisect 39 = .ok (.ireturn, 1) := by decide +kernel
theorem dX11_bisect_40 : decode cX11_bisect 40 = .ok (.iconst 0, 1) := by decide +kernel
theorem dX11_bisect_41 : decode cX11_bisect 41 = .ok (.istore 4, 2) := by decide +kernel
theorem dX11_bisect_43 : decode cX11_bisect 43 = .ok (.iload 4, 2) := by decide +kernel
theorem dX11_bisect_45 : decode cX11_bisect 45 = .ok (.bipush 30, 2) := by decide +kernel
theorem dX11_bisect_47 : decode cX11_bisect 47 = .ok (.if_icmp .ge 52, 3) := by decide +kernel
theorem dX11_bisect_50 : decode cX11_bisect 50 = .ok (.iload_n 3, 1) := by decide +kernel
theorem dX11_bisect_51 : decode cX11_bisect 51 = .ok (.iload_n 2, 1) := by decide +kernel
theorem dX11_bisect_52 : decode cX11_bisect 52 = .ok (.isub, 1) := by decide +kernel
theorem dX11_bisect_53 : decode cX11_bisect 53 = .ok (.iconst 1, 1) := by decide +kernel
theorem dX11_bisect_54 : decode cX11_bisect 54 = .ok (.if_icmp .le 45, 3) := by decide +kernel
theorem dX11_bisect_57 : decode cX11_bisect 57 = .ok (.iload_n 2, 1) := by decide +kernel
theorem dX11_bisect_58 : decode cX11_bisect 58 = .ok (.iload_n 3, 1) := by decide +kernel
theorem dX11_bisect_59 : decode cX11_bisect 59 = .ok (.iadd, 1) := by decide +kernel
theorem dX11_bisect_60 : decode cX11_bisect 60 = .ok (.iconst 2, 1) := by decide +kernel
theorem dX11_bisect_61 : decode cX11_bisect 61 = .ok (.idiv, 1) := by decide +kernel
theorem dX11_bisect_62 : decode cX11_bisect 62 = .ok (.istore 5, 2) := by decide +kernel
theorem dX11_bisect_64 : decode cX11_bisect 64 = .ok (.aload_n 0, 1) := by decide +kernel
theorem dX11_bisect_65 : decode cX11_bisect 65 = .ok (.dup, 1) := by decide +kernel
theorem dX11_bisect_66 : decode cX11_bisect 66 = .ok (.getfield 270, 3) := by decide +kernel
theorem dX11_bisect_69 : decode cX11_bisect 69 = .ok (.iconst 1, 1) := by decide +kernel
theorem dX11_bisect_70 : decode cX11_bisect 70 = .ok (.iadd, 1) := by decide +kernel
theorem dX11_bisect_71 : decode cX11_bisect 71 = .ok (.putfield 270, 3) := by decide +kernel
theorem dX11_bisect_74 : decode cX11_bisect 74 = .ok (.aload_n 0, 1) := by decide +kernel
theorem dX11_bisect_75 : decode cX11_bisect 75 = .ok (.iload 5, 2) := by decide +kernel
theorem dX11_bisect_77 : decode cX11_bisect 77 = .ok (.iload_n 1, 1) := by decide +kernel
theorem dX11_bisect_78 : decode cX11_bisect 78 = .ok (.invokevirtual 273, 3) := by decide +kernel
theorem dX11_bisect_81 : decode cX11_bisect 81 = .ok (.ifCond .eq 9, 3) := by decide +kernel
theorem dX11_bisect_84 : decode cX11_bisect 84 = .ok (.iload 5, 2) := by decide +kernel
theorem dX11_bisect_86 : decode cX11_bisect 86 = .ok (.istore_n 2, 1) := by decide +kernel
theorem dX11_bisect_87 : decode cX11_bisect 87 = .ok (.goto 6, 3) := by decide +kernel
theorem dX11_bisect_90 : decode cX11_bisect 90 = .ok (.iload 5, 2) := by decide +kernel
theorem dX11_bisect_92 : decode cX11_bisect 92 = .ok (.istore_n 3, 1) := by decide +kernel
theorem dX11_bisect_93 : decode cX11_bisect 93 = .ok (.iinc 4 1, 3) := by decide +kernel
theorem dX11_bisect_96 : decode cX11_bisect 96 = .ok (.goto (-53), 3) := by decide +kernel
theorem dX11_bisect_99 : decode cX11_bisect 99 = .ok (.iload_n 3, 1) := by decide +kernel
theorem dX11_bisect_100 : decode cX11_bisect 100 = .ok (.iconst 1, 1) := by decide +kernel
theorem dX11_bisect_101 : decode cX11_bisect 101 = .ok (.isub, 1) := by decide +kernel
theorem dX11_bisect_102 : decode cX11_bisect 102 = .ok (.ireturn, 1) := by decide +kernel
theorem dX11_checkArgument_0 : decode cX11_checkArgument 0 = .ok (.iload_n 0, 1) := by decide +kernel
theorem dX11_checkArgument_1 : decode cX11_checkArgument 1 = .ok (.ifCond .ne 14, 3) := by decide +kernel
theorem dX11_checkArgument_4 : decode cX11_checkArgument 4 = .ok (.new 176, 3) := by decide +kernel
theorem dX11_checkArgument_7 : decode cX11_checkArgument 7 = .ok (.dup, 1) := by decide +kernel
theorem dX11_checkArgument_8 : decode cX11_checkArgument 8 = .ok (.ldc_w 276, 3) := by decide +kernel
theorem dX11_checkArgument_11 : decode cX11_checkArgument 11 = .ok (.invokespecial 180, 3) := by decide +kernel
theorem dX11_checkArgument_14 : decode cX11_checkArgument 14 = .ok (.athrow, 1) := by decide +kernel
theorem dX11_checkArgument_15 : decode cX11_checkArgument 15 = .ok (.return_, 1) := by decide +kernel
theorem dX11_checkState_0 : decode cX11_checkState 0 = .ok (.iload_n 0, 1) := by decide +kernel
theorem dX11_checkState_1 : decode cX11_checkState 1 = .ok (.ifCond .ne 14, 3) := by decide +kernel
theorem dX11_checkState_4 : decode cX11_checkState 4 = .ok (.new 278, 3) := by decide +kernel
theorem dX11_checkState_7 : decode cX11_checkState 7 = .ok (.dup, 1) := by decide +kernel
theorem dX11_checkState_8 : decode cX11_checkState 8 = .ok (.ldc_w 280, 3) := by decide +kernel
theorem dX11_checkState_11 : decode cX11_checkState 11 = .ok (.invokespecial 282, 3) := by decide +kernel
theorem dX11_checkState_14 : decode cX11_checkState 14 = .ok (.athrow, 1) := by decide +kernel
theorem dX11_checkState_15 : decode cX11_checkState 15 = .ok (.return_, 1) := by decide +kernel
theorem dX11_checkTarget_0 : decode cX11_checkTarget 0 = .ok (.iload_n 1, 1) := by decide +kernel
theorem dX11_checkTarget_1 : decode cX11_checkTarget 1 = .ok (.aload_n 0, 1) := by decide +kernel
theorem dX11_checkTarget_2 : decode cX11_checkTarget 2 = .ok (.getfield 25, 3) := by decide +kernel
theorem dX11_checkTarget_5 : decode cX11_checkTarget 5 = .ok (.getfield 107, 3) := by decide +kernel
theorem dX11_checkTarget_8 : decode cX11_checkTarget 8 = .ok (.invokestatic 65, 3) := by decide +kernel
theorem dX11_checkTarget_11 : decode cX11_checkTarget 11 = .ok (.ifCond .ne 14, 3) := by decide +kernel
theorem dX11_checkTarget_14 : decode cX11_checkTarget 14 = .ok (.new 283, 3) := by decide +kernel
theorem dX11_checkTarget_17 : decode cX11_checkTarget 17 = .ok (.dup, 1) := by decide +kernel
theorem dX11_checkTarget_18 : decode cX11_checkTarget 18 = .ok (.ldc_w 285, 3) := by decide +kernel
theorem dX11_checkTarget_21 : decode cX11_checkTarget 21 = .ok (.invokespecial 287, 3) := by decide +kernel
theorem dX11_checkTarget_24 : decode cX11_checkTarget 24 = .ok (.athrow, 1) := by decide +kernel
theorem dX11_checkTarget_25 : decode cX11_checkTarget 25 = .ok (.return_, 1) := by decide +kernel
theorem dX11_checkThing_0 : decode cX11_checkThing 0 = .ok (.iload_n 1, 1) := by decide +kernel
theorem dX11_checkThing_1 : decode cX11_checkThing 1 = .ok (.invokestatic 288, 3) := by decide +kernel
theorem dX11_checkThing_4 : decode cX11_checkThing 4 = .ok (.ifCond .eq 11, 3) := by decide +kernel
theorem dX11_checkThing_7 : decode cX11_checkThing 7 = .ok (.aload_n 0, 1) := by decide +kernel
theorem dX11_checkThing_8 : decode cX11_checkThing 8 = .ok (.iload_n 1, 1) := by decide +kernel
theorem dX11_checkThing_9 : decode cX11_checkThing 9 = .ok (.bipush 16, 2) := by decide +kernel
theorem dX11_checkThing_11 : decode cX11_checkThing 11 = .ok (.isub, 1) := by decide +kernel
theorem dX11_checkThing_12 : decode cX11_checkThing 12 = .ok (.invokevirtual 130, 3) := by decide +kernel
theorem dX11_checkThing_15 : decode cX11_checkThing 15 = .ok (.return_, 1) := by decide +kernel
theorem dX11_checkedAction_0 : decode cX11_checkedAction 0 = .ok (.aload_n 0, 1) := by decide +kernel
theorem dX11_checkedAction_1 : decode cX11_checkedAction 1 = .ok (.iload_n 1, 1) := by decide +kernel
theorem dX11_checkedAction_2 : decode cX11_checkedAction 2 = .ok (.invokevirtual 130, 3) := by decide +kernel
theorem dX11_checkedAction_5 : decode cX11_checkedAction 5 = .ok (.aload_n 0, 1) := by decide +kernel
theorem dX11_checkedAction_6 : decode cX11_checkedAction 6 = .ok (.getfield 25, 3) := by decide +kernel
theorem dX11_checkedAction_9 : decode cX11_checkedAction 9 = .ok (.iload_n 1, 1) := by decide +kernel
theorem dX11_checkedAction_10 : decode cX11_checkedAction 10 = .ok (.invokevirtual 133, 3) := by decide +kernel
theorem dX11_checkedAction_13 : decode cX11_checkedAction 13 = .ok (.astore_n 3, 1) := by decide +kernel
theorem dX11_checkedAction_14 : decode cX11_checkedAction 14 = .ok (.iload_n 2, 1) := by decide +kernel
theorem dX11_checkedAction_15 : decode cX11_checkedAction 15 = .ok (.aload_n 3, 1) := by decide +kernel
theorem dX11_checkedAction_16 : decode cX11_checkedAction 16 = .ok (.getfield 143, 3) := by decide +kernel
theorem dX11_checkedAction_19 : decode cX11_checkedAction 19 = .ok (.invokestatic 65, 3) := by decide +kernel
theorem dX11_checkedAction_22 : decode cX11_checkedAction 22 = .ok (.invokestatic 69, 3) := by decide +kernel
theorem dX11_checkedAction_25 : decode cX11_checkedAction 25 = .ok (.aload_n 3, 1) := by decide +kernel
theorem dX11_checkedAction_26 : decode cX11_checkedAction 26 = .ok (.iload_n 2, 1) := by decide +kernel
theorem dX11_checkedAction_27 : decode cX11_checkedAction 27 = .ok (.invokevirtual 291, 3) := by decide +kernel
theorem dX11_checkedAction_30 : decode cX11_checkedAction 30 = .ok (.areturn, 1) := by decide +kernel
theorem dX11_isGoodAfter_0 : decode cX11_isGoodAfter 0 = .ok (.aload_n 0, 1) := by decide +kernel
theorem dX11_isGoodAfter_1 : decode cX11_isGoodAfter 1 = .ok (.getfield 61, 3) := by decide +kernel
theorem dX11_isGoodAfter_4 : decode cX11_isGoodAfter 4 = .ok (.iload_n 1, 1) := by decide +kernel
theorem dX11_isGoodAfter_5 : decode cX11_isGoodAfter 5 = .ok (.invokevirtual 237, 3) := by decide +kernel
theorem dX11_isGoodAfter_8 : decode cX11_isGoodAfter 8 = .ok (.iload_n 2, 1) := by decide +kernel
theorem dX11_isGoodAfter_9 : decode cX11_isGoodAfter 9 = .ok (.invokestatic 223, 3) := by decide +kernel
theorem dX11_isGoodAfter_12 : decode cX11_isGoodAfter 12 = .ok (.iconst 1, 1) := by decide +kernel
theorem dX11_isGoodAfter_13 : decode cX11_isGoodAfter 13 = .ok (.if_icmp .ne 7, 3) := by decide +kernel
theorem dX11_isGoodAfter_16 : decode cX11_isGoodAfter 16 = .ok (.iconst 1, 1) := by decide +kernel
theorem dX11_isGoodAfter_17 : decode cX11_isGoodAfter 17 = .ok (.goto 4, 3) := by decide +kernel
theorem dX11_isGoodAfter_20 : decode cX11_isGoodAfter 20 = .ok (.iconst 0, 1) := by decide +kernel
theorem dX11_isGoodAfter_21 : decode cX11_isGoodAfter 21 = .ok (.ireturn, 1) := by decide +kernel
theorem dX11_isBelow_0 : decode cX11_isBelow 0 = .ok (.iload_n 0, 1) := by decide +kernel
theorem dX11_isBelow_1 : decode cX11_isBelow 1 = .ok (.ifCond .lt 12, 3) := by decide +kernel
theorem dX11_isBelow_4 : decode cX11_isBelow 4 = .ok (.iload_n 0, 1) := by decide +kernel
theorem dX11_isBelow_5 : decode cX11_isBelow 5 = .ok (.iload_n 1, 1) := by decide +kernel
theorem dX11_isBelow_6 : decode cX11_isBelow 6 = .ok (.if_icmp .ge 7, 3) := by decide +kernel
theorem dX11_isBelow_9 : decode cX11_isBelow 9 = .ok (.iconst 1, 1) := by decide +kernel
theorem dX11_isBelow_10 : decode cX11_isBelow 10 = .ok (.goto 4, 3) := by decide +kernel
theorem dX11_isBelow_13 : decode cX11_isBelow 13 = .ok (.iconst 0, 1) := by decide +kernel
theorem dX11_isBelow_14 : decode cX11_isBelow 14 = .ok (.ireturn, 1) := by decide +kernel
theorem dX11_isTarget_0 : decode cX11_isTarget 0 = .ok (.iload_n 0, 1) := by decide +kernel
theorem dX11_isTarget_1 : decode cX11_isTarget 1 = .ok (.bipush 16, 2) := by decide +kernel
theorem dX11_isTarget_3 : decode cX11_isTarget 3 = .ok (.if_icmp .lt 7, 3) := by decide +kernel
theorem dX11_isTarget_6 : decode cX11_isTarget 6 = .ok (.iconst 1, 1) := by decide +kernel
theorem dX11_isTarget_7 : decode cX11_isTarget 7 = .ok (.goto 4, 3) := by decide +kernel
theorem dX11_isTarget_10 : decode cX11_isTarget 10 = .ok (.iconst 0, 1) := by decide +kernel
theorem dX11_isTarget_11 : decode cX11_isTarget 11 = .ok (.ireturn, 1) := by decide +kernel
theorem dX11_bitOf_0 : decode cX11_bitOf 0 = .ok (.iload_n 0, 1) := by decide +kernel
theorem dX11_bitOf_1 : decode cX11_bitOf 1 = .ok (.iload_n 1, 1) := by decide +kernel
theorem dX11_bitOf_2 : decode cX11_bitOf 2 = .ok (.ishr, 1) := by decide +kernel
theorem dX11_bitOf_3 : decode cX11_bitOf 3 = .ok (.iconst 1, 1) := by decide +kernel
theorem dX11_bitOf_4 : decode cX11_bitOf 4 = .ok (.iand, 1) := by decide +kernel
theorem dX11_bitOf_5 : decode cX11_bitOf 5 = .ok (.ireturn, 1) := by decide +kernel
theorem dX11_at_0 : decode cX11_at 0 = .ok (.iload_n 1, 1) := by decide +kernel
theorem dX11_at_1 : decode cX11_at 1 = .ok (.ifCond .lt 15, 3) := by decide +kernel
theorem dX11_at_4 : decode cX11_at 4 = .ok (.iload_n 1, 1) := by decide +kernel
theorem dX11_at_5 : decode cX11_at 5 = .ok (.aload_n 0, 1) := by decide +kernel
theorem dX11_at_6 : decode cX11_at 6 = .ok (.arraylength, 1) := by decide +kernel
theorem dX11_at_7 : decode cX11_at 7 = .ok (.if_icmp .ge 9, 3) := by decide +kernel
theorem dX11_at_10 : decode cX11_at 10 = .ok (.aload_n 0, 1) := by decide +kernel
theorem dX11_at_11 : decode cX11_at 11 = .ok (.iload_n 1, 1) := by decide +kernel
theorem dX11_at_12 : decode cX11_at 12 = .ok (.iaload, 1) := by decide +kernel
theorem dX11_at_13 : decode cX11_at 13 = .ok (.goto 4, 3) := by decide +kernel
theorem dX11_at_16 : decode cX11_at 16 = .ok (.iconst (-1), 1) := by decide +kernel
theorem dX11_at_17 : decode cX11_at 17 = .ok (.ireturn, 1) := by decide +kernel
theorem dX11_store_0 : decode cX11_store 0 = .ok (.iload_n 1, 1) := by decide +kernel
theorem dX11_store_1 : decode cX11_store 1 = .ok (.ifCond .lt 13, 3) := by decide +kernel
theorem dX11_store_4 : decode cX11_store 4 = .ok (.iload_n 1, 1) := by decide +kernel
theorem dX11_store_5 : decode cX11_store 5 = .ok (.aload_n 0, 1) := by decide +kernel
theorem dX11_store_6 : decode cX11_store 6 = .ok (.arraylength, 1) := by decide +kernel
theorem dX11_store_7 : decode cX11_store 7 = .ok (.if_icmp .ge 7, 3) := by decide +kernel
theorem dX11_store_10 : decode cX11_store 10 = .ok (.aload_n 0, 1) := by decide +kernel
theorem dX11_store_11 : decode cX11_store 11 = .ok (.iload_n 1, 1) := by decide +kernel
theorem dX11_store_12 : decode cX11_store 12 = .ok (.iload_n 2, 1) := by decide +kernel
theorem dX11_store_13 : decode cX11_store 13 = .ok (.iastore, 1) := by decide +kernel
theorem dX11_store_14 : decode cX11_store 14 = .ok (.return_, 1) := by decide +kernel
theorem dX11_exchange_0 : decode cX11_exchange 0 = .ok (.aload_n 0, 1) := by decide +kernel
theorem dX11_exchange_1 : decode cX11_exchange 1 = .ok (.iload_n 1, 1) := by decide +kernel
theorem dX11_exchange_2 : decode cX11_exchange 2 = .ok (.invokestatic 260, 3) := by decide +kernel
theorem dX11_exchange_5 : decode cX11_exchange 5 = .ok (.istore_n 3, 1) := by decide +kernel
theorem dX11_exchange_6 : decode cX11_exchange 6 = .ok (.aload_n 0, 1) := by decide +kernel
theorem dX11_exchange_7 : decode cX11_exchange 7 = .ok (.iload_n 1, 1) := by decide +kernel
theorem dX11_exchange_8 : decode cX11_exchange 8 = .ok (.iload_n 2, 1) := by decide +kernel
theorem dX11_exchange_9 : decode cX11_exchange 9 = .ok (.invokestatic 295, 3) := by decide +kernel
theorem dX11_exchange_12 : decode cX11_exchange 12 = .ok (.iload_n 3, 1) := by decide +kernel
theorem dX11_exchange_13 : decode cX11_exchange 13 = .ok (.ireturn, 1) := by decide +kernel
theorem dX11_plus_0 : decode cX11_plus 0 = .ok (.bipush 31, 2) := by decide +kernel
theorem dX11_plus_2 : decode cX11_plus 2 = .ok (.iload_n 0, 1) := by decide +kernel
theorem dX11_plus_3 : decode cX11_plus 3 = .ok (.imul, 1) := by decide +kernel
theorem dX11_plus_4 : decode cX11_plus 4 = .ok (.iload_n 1, 1) := by decide +kernel
theorem dX11_plus_5 : decode cX11_plus 5 = .ok (.iadd, 1) := by decide +kernel
theorem dX11_plus_6 : decode cX11_plus 6 = .ok (.iconst 1, 1) := by decide +kernel
theorem dX11_plus_7 : decode cX11_plus 7 = .ok (.iadd, 1) := by decide +kernel
theorem dX11_plus_8 : decode cX11_plus 8 = .ok (.ldc 189, 2) := by decide +kernel
theorem dX11_plus_10 : decode cX11_plus 10 = .ok (.irem, 1) := by decide +kernel
theorem dX11_plus_11 : decode cX11_plus 11 = .ok (.ireturn, 1) := by decide +kernel
theorem dX11_resultOf_0 : decode cX11_resultOf 0 = .ok (.iload_n 1, 1) := by decide +kernel
theorem dX11_resultOf_1 : decode cX11_resultOf 1 = .ok (.iconst (-1), 1) := by decide +kernel
theorem dX11_resultOf_2 : decode cX11_resultOf 2 = .ok (.if_icmp .ne 7, 3) := by decide +kernel
theorem dX11_resultOf_5 : decode cX11_resultOf 5 = .ok (.iload_n 0, 1) := by decide +kernel
theorem dX11_resultOf_6 : decode cX11_resultOf 6 = .ok (.goto 8, 3) := by decide +kernel
theorem dX11_resultOf_9 : decode cX11_resultOf 9 = .ok (.iload_n 0, 1) := by decide +kernel
theorem dX11_resultOf_10 : decode cX11_resultOf 10 = .ok (.iload_n 1, 1) := by decide +kernel
theorem dX11_resultOf_11 : decode cX11_resultOf 11 = .ok (.invokestatic 299, 3) := by decide +kernel
theorem dX11_resultOf_14 : decode cX11_resultOf 14 = .ok (.ireturn, 1) := by decide +kernel
