theorem dX12_keyOf_6 : decode cX12_keyOf 6 = .ok (.iload_n 1, 1) := by decide +kernel
theorem dX12_keyOf_7 : decode cX12_keyOf 7 = .ok (.iconst 4, 1) := by decide +kernel
theorem dX12_keyOf_8 : decode cX12_keyOf 8 = .ok (.irem, 1) := by decide +kernel
theorem dX12_keyOf_9 : decode cX12_keyOf 9 = .ok (.invokevirtual 194, 3) := by decide +kernel
theorem dX12_keyOf_12 : decode cX12_keyOf 12 = .ok (.istore_n 3, 1) := by decide +kernel
theorem dX12_keyOf_13 : decode cX12_keyOf 13 = .ok (.iconst 0, 1) := by decide +kernel
theorem dX12_keyOf_14 : decode cX12_keyOf 14 = .ok (.istore 4, 2) := by decide +kernel
theorem dX12_keyOf_16 : decode cX12_keyOf 16 = .ok (.iload 4, 2) := by decide +kernel
theorem dX12_keyOf_18 : decode cX12_keyOf 18 = .ok (.aload_n 0, 1) := by decide +kernel
theorem dX12_keyOf_19 : decode cX12_keyOf 19 = .ok (.getfield 43, 3) := by decide +kernel
theorem dX12_keyOf_22 : decode cX12_keyOf 22 = .ok (.iload_n 2, 1) := by decide +kernel
theorem dX12_keyOf_23 : decode cX12_keyOf 23 = .ok (.iaload, 1) := by decide +kernel
theorem dX12_keyOf_24 : decode cX12_keyOf 24 = .ok (.if_icmp .ge 49, 3) := by decide +kernel
theorem dX12_keyOf_27 : decode cX12_keyOf 27 = .ok (.aload_n 0, 1) := by decide +kernel
theorem dX12_keyOf_28 : decode cX12_keyOf 28 = .ok (.iload_n 2, 1) := by decide +kernel
theorem dX12_keyOf_29 : decode cX12_keyOf 29 = .ok (.iload 4, 2) := by decide +kernel
theorem dX12_keyOf_31 : decode cX12_keyOf 31 = .ok (.invokevirtual 186, 3) := by decide +kernel
theorem dX12_keyOf_34 : decode cX12_keyOf 34 = .ok (.istore 5, 2) := by decide +kernel
theorem dX12_keyOf_36 : decode cX12_keyOf 36 = .ok (.iload_n 3, 1) := by decide +kernel
theorem dX12_keyOf_37 : decode cX12_keyOf 37 = .ok (.iload 5, 2) := by decide +kernel
theorem dX12_keyOf_39 : decode cX12_keyOf 39 = .ok (.bipush 16, 2) := by decide +kernel
theorem dX12_keyOf_41 : decode cX12_keyOf 41 = .ok (.if_icmp .ge 13, 3) := by decide +kernel
theorem dX12_keyOf_44 : decode cX12_keyOf 44 = .ok (.aload_n 0, 1) := by decide +kernel
theorem dX12_keyOf_45 : decode cX12_keyOf 45 = .ok (.getfield 7, 3) := by decide +kernel
theorem dX12_keyOf_48 : decode cX12_keyOf 48 = .ok (.iload 5, 2) := by decide +kernel
theorem dX12_keyOf_50 : decode cX12_keyOf 50 = .ok (.iaload, 1) := by decide +kernel
theorem dX12_keyOf_51 : decode cX12_keyOf 51 = .ok (.goto 12, 3) := by decide +kernel
theorem dX12_keyOf_54 : decode cX12_keyOf 54 = .ok (.aload_n 0, 1) := by decide +kernel
theorem dX12_keyOf_55 : decode cX12_keyOf 55 = .ok (.iload 5, 2) := by decide +kernel
theorem dX12_keyOf_57 : decode cX12_keyOf 57 = .ok (.bipush 16, 2) := by decide +kernel
theorem dX12_keyOf_59 : decode cX12_keyOf 59 = .ok (.isub, 1) := by decide +kernel
theorem dX12_keyOf_60 : decode cX12_keyOf 60 = .ok (.invokevirtual 207, 3) := by decide +kernel
theorem dX12_keyOf_63 : decode cX12_keyOf 63 = .ok (.invokestatic 191, 3) := by decide +kernel
theorem dX12_keyOf_66 : decode cX12_keyOf 66 = .ok (.istore_n 3, 1) := by decide +kernel
theorem dX12_keyOf_67 : decode cX12_keyOf 67 = .ok (.iinc 4 1, 3) := by decide +kernel
theorem dX12_keyOf_70 : decode cX12_keyOf 70 = .ok (.goto (-54), 3) := by decide +kernel
theorem dX12_keyOf_73 : decode cX12_keyOf 73 = .ok (.iload_n 3, 1) := by decide +kernel
theorem dX12_keyOf_74 : decode cX12_keyOf 74 = .ok (.ireturn, 1) := by decide +kernel
theorem dX12_signature_0 : decode cX12_signature 0 = .ok (.bipush 7, 2) := by decide +kernel
theorem dX12_signature_2 : decode cX12_signature 2 = .ok (.iload_n 1, 1) := by decide +kernel
theorem dX12_signature_3 : decode cX12_signature 3 = .ok (.invokestatic 191, 3) := by decide +kernel
theorem dX12_signature_6 : decode cX12_signature 6 = .ok (.iload_n 2, 1) := by decide +kernel
theorem dX12_signature_7 : decode cX12_signature 7 = .ok (.invokestatic 191, 3) := by decide +kernel
theorem dX12_signature_10 : decode cX12_signature 10 = .ok (.bipush 17, 2) := by decide +kernel
theorem dX12_signature_12 : decode cX12_signature 12 = .ok (.iload_n 3, 1) := by decide +kernel
theorem dX12_signature_13 : decode cX12_signature 13 = .ok (.imul, 1) := by decide +kernel
theorem dX12_signature_14 : decode cX12_signature 14 = .ok (.iconst 5, 1) := by decide +kernel
theorem dX12_signature_15 : decode cX12_signature 15 = .ok (.iadd, 1) := by decide +kernel
theorem dX12_signature_16 : decode cX12_signature 16 = .ok (.invokestatic 191, 3) := by decide +kernel
theorem dX12_signature_19 : decode cX12_signature 19 = .ok (.ireturn, 1) := by decide +kernel
theorem dX12_isSigned_0 : decode cX12_isSigned 0 = .ok (.aload_n 0, 1) := by decide +kernel
theorem dX12_isSigned_1 : decode cX12_isSigned 1 = .ok (.getfield 77, 3) := by decide +kernel
theorem dX12_isSigned_4 : decode cX12_isSigned 4 = .ok (.iload_n 1, 1) := by decide +kernel
theorem dX12_isSigned_5 : decode cX12_isSigned 5 = .ok (.iaload, 1) := by decide +kernel
theorem dX12_isSigned_6 : decode cX12_isSigned 6 = .ok (.aload_n 0, 1) := by decide +kernel
theorem dX12_isSigned_7 : decode cX12_isSigned 7 = .ok (.aload_n 0, 1) := by decide +kernel
theorem dX12_isSigned_8 : decode cX12_isSigned 8 = .ok (.getfield 62, 3) := by decide +kernel
theorem dX12_isSigned_11 : decode cX12_isSigned 11 = .ok (.iload_n 1, 1) := by decide +kernel
theorem dX12_isSigned_12 : decode cX12_isSigned 12 = .ok (.iaload, 1) := by decide +kernel
theorem dX12_isSigned_13 : decode cX12_isSigned 13 = .ok (.aload_n 0, 1) := by decide +kernel
theorem dX12_isSigned_14 : decode cX12_isSigned 14 = .ok (.getfield 71, 3) := by decide +kernel
theorem dX12_isSigned_17 : decode cX12_isSigned 17 = .ok (.iload_n 1, 1) := by decide +kernel
theorem dX12_isSigned_18 : decode cX12_isSigned 18 = .ok (.iaload, 1) := by decide +kernel
theorem dX12_isSigned_19 : decode cX12_isSigned 19 = .ok (.aload_n 0, 1) := by decide +kernel
theorem dX12_isSigned_20 : decode cX12_isSigned 20 = .ok (.getfield 74, 3) := by decide +kernel
theorem dX12_isSigned_23 : decode cX12_isSigned 23 = .ok (.iload_n 1, 1) := by decide +kernel
theorem dX12_isSigned_24 : decode cX12_isSigned 24 = .ok (.iaload, 1) := by decide +kernel
theorem dX12_isSigned_25 : decode cX12_isSigned 25 = .ok (.invokevirtual 211, 3) := by decide +kernel
theorem dX12_isSigned_28 : decode cX12_isSigned 28 = .ok (.if_icmp .ne 7, 3) := by decide +kernel
theorem dX12_isSigned_31 : decode cX12_isSigned 31 = .ok (.iconst 1, 1) := by decide +kernel
theorem dX12_isSigned_32 : decode cX12_isSigned 32 = .ok (.goto 4, 3) := by decide +kernel
theorem dX12_isSigned_35 : decode cX12_isSigned 35 = .ok (.iconst 0, 1) := by decide +kernel
theorem dX12_isSigned_36 : decode cX12_isSigned 36 = .ok (.ireturn, 1) := by decide +kernel
theorem dX12_hit_0 : decode cX12_hit 0 = .ok (.iload_n 1, 1) := by decide +kernel
theorem dX12_hit_1 : decode cX12_hit 1 = .ok (.iconst 4, 1) := by decide +kernel
theorem dX12_hit_2 : decode cX12_hit 2 = .ok (.idiv, 1) := by decide +kernel
theorem dX12_hit_3 : decode cX12_hit 3 = .ok (.istore_n 2, 1) := by decide +kernel
theorem dX12_hit_4 : decode cX12_hit 4 = .ok (.aload_n 0, 1) := by decide +kernel
theorem dX12_hit_5 : decode cX12_hit 5 = .ok (.iload_n 1, 1) := by decide +kernel
theorem dX12_hit_6 : decode cX12_hit 6 = .ok (.invokevirtual 215, 3) := by decide +kernel
theorem dX12_hit_9 : decode cX12_hit 9 = .ok (.istore_n 3, 1) := by decide +kernel
theorem dX12_hit_10 : decode cX12_hit 10 = .ok (.aload_n 0, 1) := by decide +kernel
theorem dX12_hit_11 : decode cX12_hit 11 = .ok (.iload_n 2, 1) := by decide +kernel
theorem dX12_hit_12 : decode cX12_hit 12 = .ok (.iload_n 3, 1) := by decide +kernel
theorem dX12_hit_13 : decode cX12_hit 13 = .ok (.invokevirtual 197, 3) := by decide +kernel
theorem dX12_hit_16 : decode cX12_hit 16 = .ok (.istore 4, 2) := by decide +kernel
theorem dX12_hit_18 : decode cX12_hit 18 = .ok (.iload 4, 2) := by decide +kernel
theorem dX12_hit_20 : decode cX12_hit 20 = .ok (.iconst (-1), 1) := by decide +kernel
theorem dX12_hit_21 : decode cX12_hit 21 = .ok (.if_icmp .ne 7, 3) := by decide +kernel
theorem dX12_hit_24 : decode cX12_hit 24 = .ok (.iconst (-1), 1) := by decide +kernel
theorem dX12_hit_25 : decode cX12_hit 25 = .ok (.goto 10, 3) := by decide +kernel
theorem dX12_hit_28 : decode cX12_hit 28 = .ok (.aload_n 0, 1) := by decide +kernel
theorem dX12_hit_29 : decode cX12_hit 29 = .ok (.getfield 7, 3) := by decide +kernel
theorem dX12_hit_32 : decode cX12_hit 32 = .ok (.iload 4, 2) := by decide +kernel
theorem dX12_hit_34 : decode cX12_hit 34 = .ok (.iaload, 1) := by decide +kernel
theorem dX12_hit_35 : decode cX12_hit 35 = .ok (.istore 5, 2) := by decide +kernel
theorem dX12_hit_37 : decode cX12_hit 37 = .ok (.iconst 0, 1) := by decide +kernel
theorem dX12_hit_38 : decode cX12_hit 38 = .ok (.istore 6, 2) := by decide +kernel
theorem dX12_hit_40 : decode cX12_hit 40 = .ok (.iload 6, 2) := by decide +kernel
theorem dX12_hit_42 : decode cX12_hit 42 = .ok (.aload_n 0, 1) := by decide +kernel
theorem dX12_hit_43 : decode cX12_hit 43 = .ok (.getfield 218, 3) := by decide +kernel
theorem dX12_hit_46 : decode cX12_hit 46 = .ok (.if_icmp .ge 94, 3) := by decide +kernel
theorem dX12_hit_49 : decode cX12_hit 49 = .ok (.aload_n 0, 1) := by decide +kernel
theorem dX12_hit_50 : decode cX12_hit 50 = .ok (.getfield 62, 3) := by decide +kernel
theorem dX12_hit_53 : decode cX12_hit 53 = .ok (.iload 6, 2) := by decide +kernel
theorem dX12_hit_55 : decode cX12_hit 55 = .ok (.iaload, 1) := by decide +kernel
theorem dX12_hit_56 : decode cX12_hit 56 = .ok (.iload_n 3, 1) := by decide +kernel
theorem dX12_hit_57 : decode cX12_hit 57 = .ok (.if_icmp .ne 50, 3) := by decide +kernel
theorem dX12_hit_60 : decode cX12_hit 60 = .ok (.aload_n 0, 1) := by decide +kernel
theorem dX12_hit_61 : decode cX12_hit 61 = .ok (.getfield 80, 3) := by decide +kernel
theorem dX12_hit_64 : decode cX12_hit 64 = .ok (.iload 6, 2) := by decide +kernel
theorem dX12_hit_66 : decode cX12_hit 66 = .ok (.baload, 1) := by decide +kernel
theorem dX12_hit_67 : decode cX12_hit 67 = .ok (.ifCond .ne 40, 3) := by decide +kernel
theorem dX12_hit_70 : decode cX12_hit 70 = .ok (.aload_n 0, 1) := by decide +kernel
theorem dX12_hit_71 : decode cX12_hit 71 = .ok (.getfield 65, 3) := by decide +kernel
theorem dX12_hit_74 : decode cX12_hit 74 = .ok (.iload 6, 2) := by decide +kernel
theorem dX12_hit_76 : decode cX12_hit 76 = .ok (.iaload, 1) := by decide +kernel
theorem dX12_hit_77 : decode cX12_hit 77 = .ok (.iload 4, 2) := by decide +kernel
theorem dX12_hit_79 : decode cX12_hit 79 = .ok (.if_icmp .ne 28, 3) := by decide +kernel
theorem dX12_hit_82 : decode cX12_hit 82 = .ok (.aload_n 0, 1) := by decide +kernel
theorem dX12_hit_83 : decode cX12_hit 83 = .ok (.getfield 68, 3) := by decide +kernel
theorem dX12_hit_86 : decode cX12_hit 86 = .ok (.iload 6, 2) := by decide +kernel
theorem dX12_hit_88 : decode cX12_hit 88 = .ok (.iaload, 1) := by decide +kernel
theorem dX12_hit_89 : decode cX12_hit 89 = .ok (.iload 5, 2) := by decide +kernel
theorem dX12_hit_91 : decode cX12_hit 91 = .ok (.if_icmp .ne 16, 3) := by decide +kernel
theorem dX12_hit_94 : decode cX12_hit 94 = .ok (.aload_n 0, 1) := by decide +kernel
theorem dX12_hit_95 : decode cX12_hit 95 = .ok (.iload_n 2, 1) := by decide +kernel
theorem dX12_hit_96 : decode cX12_hit 96 = .ok (.iload_n 3, 1) := by decide +kernel
theorem dX12_hit_97 : decode cX12_hit 97 = .ok (.invokevirtual 200, 3) := by decide +kernel
theorem dX12_hit_100 : decode cX12_hit 100 = .ok (.ifCond .ne 7, 3) := by decide +kernel
theorem dX12_hit_103 : decode cX12_hit 103 = .ok (.iconst 1, 1) := by decide +kernel
theorem dX12_hit_104 : decode cX12_hit 104 = .ok (.goto 4, 3) := by decide +kernel
theorem dX12_hit_107 : decode cX12_hit 107 = .ok (.iconst 0, 1) := by decide +kernel
theorem dX12_hit_108 : decode cX12_hit 108 = .ok (.istore 7, 2) := by decide +kernel
theorem dX12_hit_110 : decode cX12_hit 110 = .ok (.iload 7, 2) := by decide +kernel
theorem dX12_hit_112 : decode cX12_hit 112 = .ok (.ifCond .eq 22, 3) := by decide +kernel
theorem dX12_hit_115 : decode cX12_hit 115 = .ok (.aload_n 0, 1) := by decide +kernel
theorem dX12_hit_116 : decode cX12_hit 116 = .ok (.getfield 58, 3) := by decide +kernel
theorem dX12_hit_119 : decode cX12_hit 119 = .ok (.ifCond .eq 12, 3) := by decide +kernel
theorem dX12_hit_122 : decode cX12_hit 122 = .ok (.aload_n 0, 1) := by decide +kernel
theorem dX12_hit_123 : decode cX12_hit 123 = .ok (.iload 6, 2) := by decide +kernel
theorem dX12_hit_125 : decode cX12_hit 125 = .ok (.invokevirtual 221, 3) := by decide +kernel
theorem dX12_hit_128 : decode cX12_hit 128 = .ok (.ifCond .eq 6, 3) := by decide +kernel
theorem dX12_hit_131 : decode cX12_hit 131 = .ok (.iload 6, 2) := by decide +kernel
theorem dX12_hit_133 : decode cX12_hit 133 = .ok (.ireturn, 1) := by decide +kernel
theorem dX12_hit_134 : decode cX12_hit 134 = .ok (.iinc 6 1, 3) := by decide +kernel
theorem dX12_hit_137 : decode cX12_hit 137 = .ok (.goto (-97), 3) := by decide +kernel
theorem dX12_hit_140 : decode cX12_hit 140 = .ok (.iconst (-1), 1) := by decide +kernel
theorem dX12_hit_141 : decode cX12_hit 141 = .ok (.ireturn, 1) := by decide +kernel
theorem dX12_keep_0 : decode cX12_keep 0 = .ok (.iconst 0, 1) := by decide +kernel
theorem dX12_keep_1 : decode cX12_keep 1 = .ok (.istore 6, 2) := by decide +kernel
theorem dX12_keep_3 : decode cX12_keep 3 = .ok (.iload 6, 2) := by decide +kernel
theorem dX12_keep_5 : decode cX12_keep 5 = .ok (.aload_n 0, 1) := by decide +kernel
theorem dX12_keep_6 : decode cX12_keep 6 = .ok (.getfield 218, 3) := by decide +kernel
theorem dX12_keep_9 : decode cX12_keep 9 = .ok (.if_icmp .ge 77, 3) := by decide +kernel
theorem dX12_keep_12 : decode cX12_keep 12 = .ok (.aload_n 0, 1) := by decide +kernel
theorem dX12_keep_13 : decode cX12_keep 13 = .ok (.getfield 62, 3) := by decide +kernel
theorem dX12_keep_16 : decode cX12_keep 16 = .ok (.iload 6, 2) := by decide +kernel
theorem dX12_keep_18 : decode cX12_keep 18 = .ok (.iaload, 1) := by decide +kernel
theorem dX12_keep_19 : decode cX12_keep 19 = .ok (.iload_n 1, 1) := by decide +kernel
theorem dX12_keep_20 : decode cX12_keep 20 = .ok (.if_icmp .ne 60, 3) := by decide +kernel
theorem dX12_keep_23 : decode cX12_keep 23 = .ok (.aload_n 0, 1) := by decide +kernel
theorem dX12_keep_24 : decode cX12_keep 24 = .ok (.getfield 65, 3) := by decide +kernel
theorem dX12_keep_27 : decode cX12_keep 27 = .ok (.iload 6, 2) := by decide +kernel
theorem dX12_keep_29 : decode cX12_keep 29 = .ok (.iaload, 1) := by decide +kernel
theorem dX12_keep_30 : decode cX12_keep 30 = .ok (.iload_n 2, 1) := by decide +kernel
theorem dX12_keep_31 : decode cX12_keep 31 = .ok (.if_icmp .ne 49, 3) := by decide +kernel
theorem dX12_keep_34 : decode cX12_keep 34 = .ok (.aload_n 0, 1) := by decide +kernel
theorem dX12_keep_35 : decode cX12_keep 35 = .ok (.getfield 68, 3) := by decide +kernel
theorem dX12_keep_38 : decode cX12_keep 38 = .ok (.iload 6, 2) := by decide +kernel
theorem dX12_keep_40 : decode cX12_keep 40 = .ok (.iaload, 1) := by decide +kernel
theorem dX12_keep_41 : decode cX12_keep 41 = .ok (.iload_n 3, 1) := by decide +kernel
theorem dX12_keep_42 : decode cX12_keep 42 = .ok (.if_icmp .ne 38, 3) := by decide +kernel
theorem dX12_keep_45 : decode cX12_keep 45 = .ok (.aload_n 0, 1) := by decide +kernel
theorem dX12_keep_46 : decode cX12_keep 46 = .ok (.getfield 71, 3) := by decide +kernel
theorem dX12_keep_49 : decode cX12_keep 49 = .ok (.iload 6, 2) := by decide +kernel
theorem dX12_keep_51 : decode cX12_keep 51 = .ok (.iaload, 1) := by decide +kernel
theorem dX12_keep_52 : decode cX12_keep 52 = .ok (.iload 4, 2) := by decide +kernel
theorem dX12_keep_54 : decode cX12_keep 54 = .ok (.if_icmp .ne 26, 3) := by decide +kernel
theorem dX12_keep_57 : decode cX12_keep 57 = .ok (.aload_n 0, 1) := by decide +kernel
theorem dX12_keep_58 : decode cX12_keep 58 = .ok (.getfield 74, 3) := by decide +kernel
theorem dX12_keep_61 : decode cX12_keep 61 = .ok (.iload 6, 2) := by decide +kernel
theorem dX12_keep_63 : decode cX12_keep 63 = .ok (.iaload, 1) := by decide +kernel
theorem dX12_keep_64 : decode cX12_keep 64 = .ok (.iload 5, 2) := by decide +kernel
theorem dX12_keep_66 : decode cX12_keep 66 = .ok (.if_icmp .ne 14, 3) := by decide +kernel
theorem dX12_keep_69 : decode cX12_keep 69 = .ok (.aload_n 0, 1) := by decide +kernel
theorem dX12_keep_70 : decode cX12_keep 70 = .ok (.getfield 80, 3) := by decide +kernel
theorem dX12_keep_73 : decode cX12_keep 73 = .ok (.iload 6, 2) := by decide +kernel
theorem dX12_keep_75 : decode cX12_keep 75 = .ok (.baload, 1) := by decide +kernel
theorem dX12_keep_76 : decode cX12_keep 76 = .ok (.ifCond .ne 4, 3) := by decide +kernel
theorem dX12_keep_79 : decode cX12_keep 79 = .ok (.return_, 1) := by decide +kernel
theorem dX12_keep_80 : decode cX12_keep 80 = .ok (.iinc 6 1, 3) := by decide +kernel
theorem dX12_keep_83 : decode cX12_keep 83 = .ok (.goto (-80), 3) := by decide +kernel
theorem dX12_keep_86 : decode cX12_keep 86 = .ok (.aload_n 0, 1) := by decide +kernel
theorem dX12_keep_87 : decode cX12_keep 87 = .ok (.getfield 218, 3) := by decide +kernel
theorem dX12_keep_90 : decode cX12_keep 90 = .ok (.bipush 40, 2) := by decide +kernel
theorem dX12_keep_92 : decode cX12_keep 92 = .ok (.if_icmp .ne 143, 3) := by decide +kernel
theorem dX12_keep_95 : decode cX12_keep 95 = .ok (.aload_n 0, 1) := by decide +kernel
theorem dX12_keep_96 : decode cX12_keep 96 = .ok (.dup, 1) := by decide +kernel
theorem dX12_keep_97 : decode cX12_keep 97 = .ok (.getfield 218, 3) := by decide +kernel
theorem dX12_keep_100 : decode cX12_keep 100 = .ok (.iconst 1, 1) := by decide +kernel
theorem dX12_keep_101 : decode cX12_keep 101 = .ok (.isub, 1) := by decide +kernel
theorem dX12_keep_102 : decode cX12_keep 102 = .ok (.putfield 218, 3) := by decide +kernel
theorem dX12_keep_105 : decode cX12_keep 105 = .ok (.iconst 0, 1) := by decide +kernel
theorem dX12_keep_106 : decode cX12_keep 106 = .ok (.istore 6, 2) := by decide +kernel
theorem dX12_keep_108 : decode cX12_keep 108 = .ok (.iload 6, 2) := by decide +kernel
theorem dX12_keep_110 : decode cX12_keep 110 = .ok (.aload_n 0, 1) := by decide +kernel
theorem dX12_keep_111 : decode cX12_keep 111 = .ok (.getfield 218, 3) := by decide +kernel
theorem dX12_keep_114 : decode cX12_keep 114 = .ok (.if_icmp .ge 121, 3) := by decide +kernel
theorem dX12_keep_117 : decode cX12_keep 117 = .ok (.aload_n 0, 1) := by decide +kernel
theorem dX12_keep_118 : decode cX12_keep 118 = .ok (.getfield 62, 3) := by decide +kernel
theorem dX12_keep_121 : decode cX12_keep 121 = .ok (.iload 6, 2) := by decide +kernel
theorem dX12_keep_123 : decode cX12_keep 123 = .ok (.aload_n 0, 1) := by decide +kernel
theorem dX12_keep_124 : decode cX12_keep 124 = .ok (.getfield 62, 3) := by decide +kernel
theorem dX12_keep_127 : decode cX12_keep 127 = .ok (.iload 6, 2) := by decide +kernel
theorem dX12_keep_129 : decode cX12_keep 129 = .ok (.iconst 1, 1) := by decide +kernel
theorem dX12_keep_130 : decode cX12_keep 130 = .ok (.iadd, 1) := by decide +kernel
theorem dX12_keep_131 : decode cX12_keep 131 = .ok (.iaload, 1) := by decide +kernel
theorem dX12_keep_132 : decode cX12_keep 132 = .ok (.iastore, 1) := by decide +kernel
theorem dX12_keep_133 : decode cX12_keep 133 = .ok (.aload_n 0, 1) := by decide +kernel
theorem dX12_keep_134 : decode cX12_keep 134 = .ok (.getfield 65, 3) := by decide +kernel
theorem dX12_keep_137 : decode cX12_keep 137 = .ok (.iload 6, 2) := by decide +kernel
theorem dX12_keep_139 : decode cX12_keep 139 = .ok (.aload_n 0, 1) := by decide +kernel
theorem dX12_keep_140 : decode cX12_keep 140 = .ok (.getfield 65, 3) := by decide +kernel
theorem dX12_keep_143 : decode cX12_keep 143 = .ok (.iload 6, 2) := by decide +kernel
theorem dX12_keep_145 : decode cX12_keep 145 = .ok (.iconst 1, 1) := by decide +kernel
theorem dX12_keep_146 : decode cX12_keep 146 = .ok (.iadd, 1) := by decide +kernel
theorem dX12_keep_147 : decode cX12_keep 147 = .ok (.iaload, 1) := by decide +kernel
theorem dX12_keep_148 : decode cX12_keep 148 = .ok (.iastore, 1) := by decide +kernel
theorem dX12_keep_149 : decode cX12_keep 149 = .ok (.aload_n 0, 1) := by decide +kernel
theorem dX12_keep_150 : decode cX12_keep 150 = .ok (.getfield 68, 3) := by decide +kernel
theorem dX12_keep_153 : decode cX12_keep 153 = .ok (.iload 6, 2) := by decide +kernel
theorem dX12_keep_155 : decode cX12_keep 155 = .ok (.aload_n 0, 1) := by decide +kernel
theorem dX12_keep_156 : decode cX12_keep 156 = .ok (.getfield 68, 3) := by decide +kernel
theorem dX12_keep_159 : decode cX12_keep 159 = .ok (.iload 6, 2) := by decide +kernel
theorem dX12_keep_161 : decode cX12_keep 161 = .ok (.iconst 1, 1) := by decide +kernel
theorem dX12_keep_162 : decode cX12_keep 162 = .ok (.iadd, 1) := by decide +kernel
theorem dX12_keep_163 : decode cX12_keep 163 = .ok (.iaload, 1) := by decide +kernel
theorem dX12_keep_164 : decode cX12_keep 164 = .ok (.iastore, 1) := by decide +kernel
theorem dX12_keep_165 : decode cX12_keep 165 = .ok (.aload_n 0, 1) := by decide +kernel
theorem dX12_keep_166 : decode cX12_keep 166 = .ok (.getfield 71, 3) := by decide +kernel
theorem dX12_keep_169 : decode cX12_keep 169 = .ok (.iload 6, 2) := by decide +kernel
theorem dX12_keep_171 : decode cX12_keep 171 = .ok (.aload_n 0, 1) := by decide +kernel
theorem dX12_keep_172 : decode cX12_keep 172 = .ok (.getfield 71, 3) := by decide +kernel
theorem dX12_keep_175 : decode cX12_keep 175 = .ok (.iload 6, 2) := by decide +kernel
theorem dX12_keep_177 : decode cX12_keep 177 = .ok (.iconst 1, 1) := by decide +kernel
theorem dX12_keep_178 : decode cX12_keep 178 = .ok (.iadd, 1) := by decide +kernel
theorem dX12_keep_179 : decode cX12_keep 179 = .ok (.iaload, 1) := by decide +kernel
theorem dX12_keep_180 : decode cX12_keep 180 = .ok (.iastore, 1) := by decide +kernel
theorem dX12_keep_181 : decode cX12_keep 181 = .ok (.aload_n 0, 1) := by decide +kernel
theorem dX12_keep_182 : decode cX12_keep 182 = .ok (.getfield 74, 3) := by decide +kernel
theorem dX12_keep_185 : decode cX12_keep 185 = .ok (.iload 6, 2) := by decide +kernel
theorem dX12_keep_187 : decode cX12_keep 187 = .ok (.aload_n 0, 1) := by decide +kernel
theorem dX12_keep_188 : decode cX12_keep 188 = .ok (.getfield 74, 3) := by decide +kernel
theorem dX12_keep_191 : decode cX12_keep 191 = .ok (.iload 6, 2) := by decide +kernel
theorem dX12_keep_193 : decode cX12_keep 193 = .ok (.iconst 1, 1) := by decide +kernel
theorem dX12_keep_194 : decode cX12_keep 194 = .ok (.iadd, 1) := by decide +kernel
theorem dX12_keep_195 : decode cX12_keep 195 = .ok (.iaload, 1) := by decide +kernel
theorem dX12_keep_196 : decode cX12_keep 196 = .ok (.iastore, 1) := by decide +kernel
theorem dX12_keep_197 : decode cX12_keep 197 = .ok (.aload_n 0, 1) := by decide +kernel
theorem dX12_keep_198 : decode cX12_keep 198 = .ok (.getfield 77, 3) := by decide +kernel
theorem dX12_keep_201 : decode cX12_keep 201 = .ok (.iload 6, 2) := by decide +kernel
theorem dX12_keep_203 : decode cX12_keep 203 = .ok (.aload_n 0, 1) := by decide +kernel
theorem dX12_keep_204 : decode cX12_keep 204 = .ok (.getfield 77, 3) := by decide +kernel
theorem dX12_keep_207 : decode cX12_keep 207 = .ok (.iload 6, 2) := by decide +kernel
theorem dX12_keep_209 : decode cX12_keep 209 = .ok (.iconst 1, 1) := by decide +kernel
theorem dX12_keep_210 : decode cX12_keep 210 = .ok (.iadd, 1) := by decide +kernel
theorem dX12_keep_211 : decode cX12_keep 211 = .ok (.iaload, 1) := by decide +kernel
theorem dX12_keep_212 : decode cX12_keep 212 = .ok (.iastore, 1) := by decide +kernel
theorem dX12_keep_213 : decode cX12_keep 213 = .ok (.aload_n 0, 1) := by decide +kernel
theorem dX12_keep_214 : decode cX12_keep 214 = .ok (.getfield 80, 3) := by decide +kernel
theorem dX12_keep_217 : decode cX12_keep 217 = .ok (.iload 6, 2) := by decide +kernel
theorem dX12_keep_219 : decode cX12_keep 219 = .ok (.aload_n 0, 1) := by decide +kernel
theorem dX12_keep_220 : decode cX12_keep 220 = .ok (.getfield 80, 3) := by decide +kernel
theorem dX12_keep_223 : decode cX12_keep 223 = .ok (.iload 6, 2) := by decide +kernel
theorem dX12_keep_225 : decode cX12_keep 225 = .ok (.iconst 1, 1) := by decide +kernel
theorem dX12_keep_226 : decode cX12_keep 226 = .ok (.iadd, 1) := by decide +kernel
theorem dX12_keep_227 : decode cX12_keep 227 = .ok (.baload, 1) := by decide +kernel
theorem dX12_keep_228 : decode cX12_keep 228 = .ok (.bastore, 1) := by decide +kernel
theorem dX12_keep_229 : decode cX12_keep 229 = .ok (.iinc 6 1, 3) := by decide +kernel
theorem dX12_keep_232 : decode cX12_keep 232 = .ok (.goto (-124), 3) := by decide +kernel
theorem dX12_keep_235 : decode cX12_keep 235 = .ok (.aload_n 0, 1) := by decide +kernel
theorem dX12_keep_236 : decode cX12_keep 236 = .ok (.getfield 62, 3) := by decide +kernel
theorem dX12_keep_239 : decode cX12_keep 239 = .ok (.aload_n 0, 1) := by decide +kernel
theorem dX12_keep_240 : decode cX12_keep 240 = .ok (.getfield 218, 3) := by decide +kernel
theorem dX12_keep_243 : decode cX12_keep 243 = .ok (.iload_n 1, 1) := by decide +kernel
theorem dX12_keep_244 : decode cX12_keep 244 = .ok (.iastore, 1) := by decide +kernel
theorem dX12_keep_245 : decode cX12_keep 245 = .ok (.aload_n 0, 1) := by decide +kernel
theorem dX12_keep_246 : decode cX12_keep 246 = .ok (.getfield 65, 3) := by decide +kernel
theorem dX12_keep_249 : decode cX12_keep 249 = .ok (.aload_n 0, 1) := by decide +kernel
theorem dX12_keep_250 : decode cX12_keep 250 = .ok (.getfield 218, 3) := by decide +kernel
theorem dX12_keep_253 : decode cX12_keep 253 = .ok (.iload_n 2, 1) := by decide +kernel
theorem dX12_keep_254 : decode cX12_keep 254 = .ok (.iastore, 1) := by decide +kernel
theorem dX12_keep_255 : decode cX12_keep 255 = .ok (.aload_n 0, 1) := by decide +kernel
theorem dX12_keep_256 : decode cX12_keep 256 = .ok (.getfield 68, 3) := by decide +kernel
theorem dX12_keep_259 : decode cX12_keep 259 = .ok (.aload_n 0, 1) := by decide +kernel
theorem dX12_keep_260 : decode cX12_keep 260 = .ok (.getfield 218, 3) := by decide +kernel
theorem dX12_keep_263 : decode cX12_keep 263 = .ok (.iload_n 3, 1) := by decide +kernel
theorem dX12_keep_264 : decode cX12_keep 264 = .ok (.iastore, 1) := by decide +kernel
theorem dX12_keep_265 : decode cX12_keep 265 = .ok (.aload_n 0, 1) := by decide +kernel
theorem dX12_keep_266 : decode cX12_keep 266 = .ok (.getfield 71, 3) := by decide +kernel
theorem dX12_keep_269 : decode cX12_keep 269 = .ok (.aload_n 0, 1) := by decide +kernel
theorem dX12_keep_270 : decode cX12_keep 270 = .ok (.getfield 218, 3) := by decide +kernel
theorem dX12_keep_273 : decode cX12_keep 273 = .ok (.iload 4, 2) := by decide +kernel
theorem dX12_keep_275 : decode cX12_keep 275 = .ok (.iastore, 1) := by decide +kernel
theorem dX12_keep_276 : decode cX12_keep 276 = .ok (.aload_n 0, 1) := by decide +kernel
theorem dX12_keep_277 : decode cX12_keep 277 = .ok (.getfield 74, 3) := by decide +kernel
theorem dX12_keep_280 : decode cX12_keep 280 = .ok (.aload_n 0, 1) := by decide +kernel
theorem dX12_keep_281 : decode cX12_keep 281 = .ok (.getfield 218, 3) := by decide +kernel
theorem dX12_keep_284 : decode cX12_keep 284 = .ok (.iload 5, 2) := by decide +kernel
theorem dX12_keep_286 : decode cX12_keep 286 = .ok (.iastore, 1) := by decide +kernel
theorem dX12_keep_287 : decode cX12_keep 287 = .ok (.aload_n 0, 1) := by decide +kernel
theorem dX12_keep_288 : decode cX12_keep 288 = .ok (.getfield 77, 3) := by decide +kernel
theorem dX12_keep_291 : decode cX12_keep 291 = .ok (.aload_n 0, 1) := by decide +kernel
theorem dX12_keep_292 : decode cX12_keep 292 = .ok (.getfield 218, 3) := by decide +kernel
theorem dX12_keep_295 : decode cX12_keep 295 = .ok (.aload_n 0, 1) := by decide +kernel
theorem dX12_keep_296 : decode cX12_keep 296 = .ok (.iload_n 1, 1) := by decide +kernel
theorem dX12_keep_297 : decode cX12_keep 297 = .ok (.iload 4, 2) := by decide +kernel
theorem dX12_keep_299 : decode cX12_keep 299 = .ok (.iload 5, 2) := by decide +kernel
theorem dX12_keep_301 : decode cX12_keep 301 = .ok (.invokevirtual 211, 3) := by decide +kernel
theorem dX12_keep_304 : decode cX12_keep 304 = .ok (.iastore, 1) := by decide +kernel
theorem dX12_keep_305 : decode cX12_keep 305 = .ok (.aload_n 0, 1) := by decide +kernel
theorem dX12_keep_306 : decode cX12_keep 306 = .ok (.getfield 80, 3) := by decide +kernel
theorem dX12_keep_309 : decode cX12_keep 309 = .ok (.aload_n 0, 1) := by decide +kernel
theorem dX12_keep_310 : decode cX12_keep 310 = .ok (.getfield 218, 3) := by decide +kernel
theorem dX12_keep_313 : decode cX12_keep 313 = .ok (.iconst 0, 1) := by decide +kernel
theorem dX12_keep_314 : decode cX12_keep 314 = .ok (.bastore, 1) := by decide +kernel
theorem dX12_keep_315 : decode cX12_keep 315 = .ok (.aload_n 0, 1) := by decide +kernel
theorem dX12_keep_316 : decode cX12_keep 316 = .ok (.dup, 1) := by decide +kernel
theorem dX12_keep_317 : decode cX12_keep 317 = .ok (.getfield 218, 3) := by decide +kernel
theorem dX12_keep_320 : decode cX12_keep 320 = .ok (.iconst 1, 1) := by decide +kernel
theorem dX12_keep_321 : decode cX12_keep 321 = .ok (.iadd, 1) := by decide +kernel
theorem dX12_keep_322 : decode cX12_keep 322 = .ok (.putfield 218, 3) := by decide +kernel
theorem dX12_keep_325 : decode cX12_keep 325 = .ok (.return_, 1) := by decide +kernel
theorem dX12_entries_0 : decode cX12_entries 0 = .ok (.aload_n 0, 1) := by decide +kernel
theorem dX12_entries_1 : decode cX12_entries 1 = .ok (.iconst 0, 1) := by decide +kernel
theorem dX12_entries_2 : decode cX12_entries 2 = .ok (.putfield 150, 3) := by decide +kernel
theorem dX12_entries_5 : decode cX12_entries 5 = .ok (.aload_n 0, 1) := by decide +kernel
theorem dX12_entries_6 : decode cX12_entries 6 = .ok (.getfield 218, 3) := by decide +kernel
theorem dX12_entries_9 : decode cX12_entries 9 = .ok (.ireturn, 1) := by decide +kernel
theorem dX12_entry_0 : decode cX12_entry 0 = .ok (.aload_n 0, 1) := by decide +kernel
theorem dX12_entry_1 : decode cX12_entry 1 = .ok (.iload_n 1, 1) := by decide +kernel
theorem dX12_entry_2 : decode cX12_entry 2 = .ok (.iconst 0, 1) := by decide +kernel
theorem dX12_entry_3 : decode cX12_entry 3 = .ok (.aload_n 0, 1) := by decide +kernel
theorem dX12_entry_4 : decode cX12_entry 4 = .ok (.getfield 218, 3) := by decide +kernel
theorem dX12_entry_7 : decode cX12_entry 7 = .ok (.iconst 1, 1) := by decide +kernel
theorem dX12_entry_8 : decode cX12_entry 8 = .ok (.isub, 1) := by decide +kernel
theorem dX12_entry_9 : decode cX12_entry 9 = .ok (.invokestatic 157, 3) := by decide +kernel
theorem dX12_entry_12 : decode cX12_entry 12 = .ok (.ifCond .eq 17, 3) := by decide +kernel
theorem dX12_entry_15 : decode cX12_entry 15 = .ok (.iload_n 2, 1) := by decide +kernel
theorem dX12_entry_16 : decode cX12_entry 16 = .ok (.iconst 0, 1) := by decide +kernel
theorem dX12_entry_17 : decode cX12_entry 17 = .ok (.bipush 6, 2) := by decide +kernel
theorem dX12_entry_19 : decode cX12_entry 19 = .ok (.invokestatic 157, 3) := by decide +kernel
theorem dX12_entry_22 : decode cX12_entry 22 = .ok (.ifCond .eq 7, 3) := by decide +kernel
theorem dX12_entry_25 : decode cX12_entry 25 = .ok (.iconst 1, 1) := by decide +kernel
theorem dX12_entry_26 : decode cX12_entry 26 = .ok (.goto 4, 3) := by decide +kernel
theorem dX12_entry_29 : decode cX12_entry 29 = .ok (.iconst 0, 1) := by decide +kernel
theorem dX12_entry_30 : decode cX12_entry 30 = .ok (.invokevirtual 161, 3) := by decide +kernel
theorem dX12_entry_33 : decode cX12_entry 33 = .ok (.ifCond .ne 5, 3) := by decide +kernel
theorem dX12_entry_36 : decode cX12_entry 36 = .ok (.iconst 0, 1) := by decide +kernel
theorem dX12_entry_37 : decode cX12_entry 37 = .ok (.ireturn, 1) := by decide +kernel
theorem dX12_entry_38 : decode cX12_entry 38 = .ok (.iload_n 2, 1) := by decide +kernel
theorem dX12_entry_39 : decode cX12_entry 39 = .ok (.ifCond .ne 12, 3) := by decide +kernel
theorem dX12_entry_42 : decode cX12_entry 42 = .ok (.aload_n 0, 1) := by decide +kernel
theorem dX12_entry_43 : decode cX12_entry 43 = .ok (.getfield 62, 3) := by decide +kernel
theorem dX12_entry_46 : decode cX12_entry 46 = .ok (.iload_n 1, 1) := by decide +kernel
theorem dX12_entry_47 : decode cX12_entry 47 = .ok (.iaload, 1) := by decide +kernel
theorem dX12_entry_48 : decode cX12_entry 48 = .ok (.goto 94, 3) := by decide +kernel
theorem dX12_entry_51 : decode cX12_entry 51 = .ok (.iload_n 2, 1) := by decide +kernel
theorem dX12_entry_52 : decode cX12_entry 52 = .ok (.iconst 1, 1) := by decide +kernel
theorem dX12_entry_53 : decode cX12_entry 53 = .ok (.if_icmp .ne 12, 3) := by decide +kernel
theorem dX12_entry_56 : decode cX12_entry 56 = .ok (.aload_n 0, 1) := by decide +kernel
theorem dX12_entry_57 : decode cX12_entry 57 = .ok (.getfield 65, 3) := by decide +kernel
theorem dX12_entry_60 : decode cX12_entry 60 = .ok (.iload_n 1, 1) := by decide +kernel
theorem dX12_entry_61 : decode cX12_entry 61 = .ok (.iaload, 1) := by decide +kernel
theorem dX12_entry_62 : decode cX12_entry 62 = .ok (.goto 80, 3) := by decide +kernel
theorem dX12_entry_65 : decode cX12_entry 65 = .ok (.iload_n 2, 1) := by decide +kernel
theorem dX12_entry_66 : decode cX12_entry 66 = .ok (.iconst 2, 1) := by decide +kernel
theorem dX12_entry_67 : decode cX12_entry 67 = .ok (.if_icmp .ne 12, 3) := by decide +kernel
theorem dX12_entry_70 : decode cX12_entry 70 = .ok (.aload_n 0, 1) := by decide +kernel
theorem dX12_entry_71 : decode cX12_entry 71 = .ok (.getfield 68, 3) := by decide +kernel
theorem dX12_entry_74 : decode cX12_entry 74 = .ok (.iload_n 1, 1) := by decide +kernel
theorem dX12_entry_75 : decode cX12_entry 75 = .ok (.iaload, 1) := by decide +kernel
theorem dX12_entry_76 : decode cX12_entry 76 = .ok (.goto 66, 3) := by decide +kernel
theorem dX12_entry_79 : decode cX12_entry 79 = .ok (.iload_n 2, 1) := by decide +kernel
theorem dX12_entry_80 : decode cX12_entry 80 = .ok (.iconst 3, 1) := by decide +kernel
theorem dX12_entry_81 : decode cX12_entry 81 = .ok (.if_icmp .ne 12, 3) := by decide +kernel
theorem dX12_entry_84 : decode cX12_entry 84 = .ok (.aload_n 0, 1) := by decide +kernel
theorem dX12_entry_85 : decode cX12_entry 85 = .ok (.getfield 71, 3) := by decide +kernel
theorem dX12_entry_88 : decode cX12_entry 88 = .ok (.iload_n 1, 1) := by decide +kernel
theorem dX12_entry_89 : decode cX12_entry 89 = .ok (.iaload, 1) := by decide +kernel
theorem dX12_entry_90 : decode cX12_entry 90 = .ok (.goto 52, 3) := by decide +kernel
theorem dX12_entry_93 : decode cX12_entry 93 = .ok (.iload_n 2, 1) := by decide +kernel
theorem dX12_entry_94 : decode cX12_entry 94 = .ok (.iconst 4, 1) := by decide +kernel
theorem dX12_entry_95 : decode cX12_entry 95 = .ok (.if_icmp .ne 12, 3) := by decide +kernel
theorem dX12_entry_98 : decode cX12_entry 98 = .ok (.aload_n 0, 1) := by decide +kernel
theorem dX12_entry_99 : decode cX12_entry 99 = .ok (.getfield 74, 3) := by decide +kernel
theorem dX12_entry_102 : decode cX12_entry 102 = .ok (.iload_n 1, 1) := by decide +kernel
theorem dX12_entry_103 : decode cX12_entry 103 = .ok (.iaload, 1) := by decide +kernel
theorem dX12_entry_104 : decode cX12_entry 104 = .ok (.goto 38, 3) := by decide +kernel
theorem dX12_entry_107 : decode cX12_entry 107 = .ok (.iload_n 2, 1) := by decide +kernel
theorem dX12_entry_108 : decode cX12_entry 108 = .ok (.iconst 5, 1) := by decide +kernel
theorem dX12_entry_109 : decode cX12_entry 109 = .ok (.if_icmp .ne 20, 3) := by decide +kernel
theorem dX12_entry_112 : decode cX12_entry 112 = .ok (.aload_n 0, 1) := by decide +kernel
theorem dX12_entry_113 : decode cX12_entry 113 = .ok (.getfield 80, 3) := by decide +kernel
theorem dX12_entry_116 : decode cX12_entry 116 = .ok (.iload_n 1, 1) := by decide +kernel
theorem dX12_entry_117 : decode cX12_entry 117 = .ok (.baload, 1) := by decide +kernel
theorem dX12_entry_118 : decode cX12_entry 118 = .ok (.ifCond .eq 7, 3) := by decide +kernel
theorem dX12_entry_121 : decode cX12_entry 121 = .ok (.iconst 0, 1) := by decide +kernel
theorem dX12_entry_122 : decode cX12_entry 122 = .ok (.goto 20, 3) := by decide +kernel
theorem dX12_entry_125 : decode cX12_entry 125 = .ok (.iconst 1, 1) := by decide +kernel
theorem dX12_entry_126 : decode cX12_entry 126 = .ok (.goto 16, 3) := by decide +kernel
theorem dX12_entry_129 : decode cX12_entry 129 = .ok (.aload_n 0, 1) := by decide +kernel
theorem dX12_entry_130 : decode cX12_entry 130 = .ok (.iload_n 1, 1) := by decide +kernel
theorem dX12_entry_131 : decode cX12_entry 131 = .ok (.invokevirtual 221, 3) := by decide +kernel
theorem dX12_entry_134 : decode cX12_entry 134 = .ok (.ifCond .eq 7, 3) := by decide +kernel
theorem dX12_entry_137 : decode cX12_entry 137 = .ok (.iconst 1, 1) := by decide +kernel
theorem dX12_entry_138 : decode cX12_entry 138 = .ok (.goto 4, 3) := by decide +kernel
theorem dX12_entry_141 : decode cX12_entry 141 = .ok (.iconst 0, 1) := by decide +kernel
theorem dX12_entry_142 : decode cX12_entry 142 = .ok (.ireturn, 1) := by decide +kernel
theorem dX12_lie_0 : decode cX12_lie 0 = .ok (.aload_n 0, 1) := by decide +kernel
theorem dX12_lie_1 : decode cX12_lie 1 = .ok (.iload_n 1, 1) := by decide +kernel
theorem dX12_lie_2 : decode cX12_lie 2 = .ok (.iconst 0, 1) := by decide +kernel
theorem dX12_lie_3 : decode cX12_lie 3 = .ok (.aload_n 0, 1) := by decide +kernel
theorem dX12_lie_4 : decode cX12_lie 4 = .ok (.getfield 218, 3) := by decide +kernel
theorem dX12_lie_7 : decode cX12_lie 7 = .ok (.iconst 1, 1) := by decide +kernel
theorem dX12_lie_8 : decode cX12_lie 8 = .ok (.isub, 1) := by decide +kernel
theorem dX12_lie_9 : decode cX12_lie 9 = .ok (.invokestatic 157, 3) := by decide +kernel
theorem dX12_lie_12 : decode cX12_lie 12 = .ok (.ifCond .eq 17, 3) := by decide +kernel
theorem dX12_lie_15 : decode cX12_lie 15 = .ok (.iload_n 2, 1) := by decide +kernel
theorem dX12_lie_16 : decode cX12_lie 16 = .ok (.iconst 0, 1) := by decide +kernel
theorem dX12_lie_17 : decode cX12_lie 17 = .ok (.ldc 224, 2) := by decide +kernel
theorem dX12_lie_19 : decode cX12_lie 19 = .ok (.invokestatic 157, 3) := by decide +kernel
theorem dX12_lie_22 : decode cX12_lie 22 = .ok (.ifCond .eq 7, 3) := by decide +kernel
theorem dX12_lie_25 : decode cX12_lie 25 = .ok (.iconst 1, 1) := by decide +kernel
theorem dX12_lie_26 : decode cX12_lie 26 = .ok (.goto 4, 3) := by decide +kernel
theorem dX12_lie_29 : decode cX12_lie 29 = .ok (.iconst 0, 1) := by decide +kernel
theorem dX12_lie_30 : decode cX12_lie 30 = .ok (.invokevirtual 161, 3) := by decide +kernel
theorem dX12_lie_33 : decode cX12_lie 33 = .ok (.ifCond .eq 10, 3) := by decide +kernel
theorem dX12_lie_36 : decode cX12_lie 36 = .ok (.aload_n 0, 1) := by decide +kernel
theorem dX12_lie_37 : decode cX12_lie 37 = .ok (.getfield 71, 3) := by decide +kernel
theorem dX12_lie_40 : decode cX12_lie 40 = .ok (.iload_n 1, 1) := by decide +kernel
theorem dX12_lie_41 : decode cX12_lie 41 = .ok (.iload_n 2, 1) := by decide +kernel
theorem dX12_lie_42 : decode cX12_lie 42 = .ok (.iastore, 1) := by decide +kernel
theorem dX12_lie_43 : decode cX12_lie 43 = .ok (.return_, 1) := by decide +kernel
theorem dX12_lose_0 : decode cX12_lose 0 = .ok (.aload_n 0, 1) := by decide +kernel
theorem dX12_lose_1 : decode cX12_lose 1 = .ok (.iload_n 1, 1) := by decide +kernel
theorem dX12_lose_2 : decode cX12_lose 2 = .ok (.iconst 0, 1) := by decide +kernel
theorem dX12_lose_3 : decode cX12_lose 3 = .ok (.aload_n 0, 1) := by decide +kernel
theorem dX12_lose_4 : decode cX12_lose 4 = .ok (.getfield 218, 3) := by decide +kernel
theorem dX12_lose_7 : decode cX12_lose 7 = .ok (.iconst 1, 1) := by decide +kernel
theorem dX12_lose_8 : decode cX12_lose 8 = .ok (.isub, 1) := by decide +kernel
theorem dX12_lose_9 : decode cX12_lose 9 = .ok (.invokestatic 157, 3) := by decide +kernel
theorem dX12_lose_12 : decode cX12_lose 12 = .ok (.invokevirtual 161, 3) := by decide +kernel
theorem dX12_lose_15 : decode cX12_lose 15 = .ok (.ifCond .ne 5, 3) := by decide +kernel
theorem dX12_lose_18 : decode cX12_lose 18 = .ok (.iconst 0, 1) := by decide +kernel
theorem dX12_lose_19 : decode cX12_lose 19 = .ok (.ireturn, 1) := by decide +kernel
theorem dX12_lose_20 : decode cX12_lose 20 = .ok (.aload_n 0, 1) := by decide +kernel
theorem dX12_lose_21 : decode cX12_lose 21 = .ok (.getfield 80, 3) := by decide +kernel
theorem dX12_lose_24 : decode cX12_lose 24 = .ok (.iload_n 1, 1) := by decide +kernel
theorem dX12_lose_25 : decode cX12_lose 25 = .ok (.baload, 1) := by decide +kernel
theorem dX12_lose_26 : decode cX12_lose 26 = .ok (.ifCond .ne 7, 3) := by decide +kernel
theorem dX12_lose_29 : decode cX12_lose 29 = .ok (.iconst 1, 1) := by decide +kernel
theorem dX12_lose_30 : decode cX12_lose 30 = .ok (.goto 4, 3) := by decide +kernel
theorem dX12_lose_33 : decode cX12_lose 33 = .ok (.iconst 0, 1) := by decide +kernel
theorem dX12_lose_34 : decode cX12_lose 34 = .ok (.istore_n 2, 1) := by decide +kernel
theorem dX12_lose_35 : decode cX12_lose 35 = .ok (.aload_n 0, 1) := by decide +kernel
theorem dX12_lose_36 : decode cX12_lose 36 = .ok (.getfield 80, 3) := by decide +kernel
theorem dX12_lose_39 : decode cX12_lose 39 = .ok (.iload_n 1, 1) := by decide +kernel
theorem dX12_lose_40 : decode cX12_lose 40 = .ok (.iconst 1, 1) := by decide +kernel
theorem dX12_lose_41 : decode cX12_lose 41 = .ok (.bastore, 1) := by decide +kernel
theorem dX12_lose_42 : decode cX12_lose 42 = .ok (.iload_n 2, 1) := by decide +kernel
theorem dX12_lose_43 : decode cX12_lose 43 = .ok (.ireturn, 1) := by decide +kernel
theorem dX12_setPower_0 : decode cX12_setPower 0 = .ok (.aload_n 0, 1) := by decide +kernel
theorem dX12_setPower_1 : decode cX12_setPower 1 = .ok (.iload_n 1, 1) := by decide +kernel
theorem dX12_setPower_2 : decode cX12_setPower 2 = .ok (.iconst 0, 1) := by decide +kernel
theorem dX12_setPower_3 : decode cX12_setPower 3 = .ok (.iconst 3, 1) := by decide +kernel
theorem dX12_setPower_4 : decode cX12_setPower 4 = .ok (.invokestatic 157, 3) := by decide +kernel
theorem dX12_setPower_7 : decode cX12_setPower 7 = .ok (.ifCond .eq 17, 3) := by decide +kernel
theorem dX12_setPower_10 : decode cX12_setPower 10 = .ok (.iload_n 2, 1) := by decide +kernel
theorem dX12_setPower_11 : decode cX12_setPower 11 = .ok (.iconst 0, 1) := by decide +kernel
theorem dX12_setPower_12 : decode cX12_setPower 12 = .ok (.bipush 9, 2) := by decide +kernel
theorem dX12_setPower_14 : decode cX12_setPower 14 = .ok (.invokestatic 157, 3) := by decide +kernel
theorem dX12_setPower_17 : decode cX12_setPower 17 = .ok (.ifCond .eq 7, 3) := by decide +kernel
theorem dX12_setPower_20 : decode cX12_setPower 20 = .ok (.iconst 1, 1) := by decide +kernel
theorem dX12_setPower_21 : decode cX12_setPower 21 = .ok (.goto 4, 3) := by decide +kernel
theorem dX12_setPower_24 : decode cX12_setPower 24 = .ok (.iconst 0, 1) := by decide +kernel
theorem dX12_setPower_25 : decode cX12_setPower 25 = .ok (.invokevirtual 161, 3) := by decide +kernel
theorem dX12_setPower_28 : decode cX12_setPower 28 = .ok (.ifCond .ne 5, 3) := by decide +kernel
theorem dX12_setPower_31 : decode cX12_setPower 31 = .ok (.iconst 0, 1) := by decide +kernel
theorem dX12_setPower_32 : decode cX12_setPower 32 = .ok (.ireturn, 1) := by decide +kernel
theorem dX12_setPower_33 : decode cX12_setPower 33 = .ok (.aload_n 0, 1) := by decide +kernel
theorem dX12_setPower_34 : decode cX12_setPower 34 = .ok (.getfield 84, 3) := by decide +kernel
theorem dX12_setPower_37 : decode cX12_setPower 37 = .ok (.iload_n 1, 1) := by decide +kernel
theorem dX12_setPower_38 : decode cX12_setPower 38 = .ok (.iaload, 1) := by decide +kernel
theorem dX12_setPower_39 : decode cX12_setPower 39 = .ok (.istore_n 3, 1) := by decide +kernel
theorem dX12_setPower_40 : decode cX12_setPower 40 = .ok (.iload_n 3, 1) := by decide +kernel
theorem dX12_setPower_41 : decode cX12_setPower 41 = .ok (.iload_n 2, 1) := by decide +kernel
theorem dX12_setPower_42 : decode cX12_setPower 42 = .ok (.if_icmp .eq 66, 3) := by decide +kernel
theorem dX12_setPower_45 : decode cX12_setPower 45 = .ok (.aload_n 0, 1) := by decide +kernel
theorem dX12_setPower_46 : decode cX12_setPower 46 = .ok (.getfield 84, 3) := by decide +kernel
theorem dX12_setPower_49 : decode cX12_setPower 49 = .ok (.iload_n 1, 1) := by decide +kernel
theorem dX12_setPower_50 : decode cX12_setPower 50 = .ok (.iload_n 2, 1) := by decide +kernel
theorem dX12_setPower_51 : decode cX12_setPower 51 = .ok (.iastore, 1) := by decide +kernel
theorem dX12_setPower_52 : decode cX12_setPower 52 = .ok (.aload_n 0, 1) := by decide +kernel
theorem dX12_setPower_53 : decode cX12_setPower 53 = .ok (.getfield 102, 3) := by decide +kernel
theorem dX12_setPower_56 : decode cX12_setPower 56 = .ok (.iload_n 1, 1) := by decide +kernel
theorem dX12_setPower_57 : decode cX12_setPower 57 = .ok (.iconst (-1), 1) := by decide +kernel
theorem dX12_setPower_58 : decode cX12_setPower 58 = .ok (.iastore, 1) := by decide +kernel
theorem dX12_setPower_59 : decode cX12_setPower 59 = .ok (.aload_n 0, 1) := by decide +kernel
theorem dX12_setPower_60 : decode cX12_setPower 60 = .ok (.getfield 87, 3) := by decide +kernel
theorem dX12_setPower_63 : decode cX12_setPower 63 = .ok (.iload_n 1, 1) := by decide +kernel
theorem dX12_setPower_64 : decode cX12_setPower 64 = .ok (.iaload, 1) := by decide +kernel
theorem dX12_setPower_65 : decode cX12_setPower 65 = .ok (.istore 4, 2) := by decide +kernel
theorem dX12_setPower_67 : decode cX12_setPower 67 = .ok (.aload_n 0, 1) := by decide +kernel
theorem dX12_setPower_68 : decode cX12_setPower 68 = .ok (.getfield 87, 3) := by decide +kernel
theorem dX12_setPower_71 : decode cX12_setPower 71 = .ok (.iload_n 1, 1) := by decide +kernel
theorem dX12_setPower_72 : decode cX12_setPower 72 = .ok (.iconst (-1), 1) := by decide +kernel
theorem dX12_setPower_73 : decode cX12_setPower 73 = .ok (.iastore, 1) := by decide +kernel
theorem dX12_setPower_74 : decode cX12_setPower 74 = .ok (.iload 4, 2) := by decide +kernel
theorem dX12_setPower_76 : decode cX12_setPower 76 = .ok (.iconst (-1), 1) := by decide +kernel
theorem dX12_setPower_77 : decode cX12_setPower 77 = .ok (.if_icmp .eq 31, 3) := by decide +kernel
theorem dX12_setPower_80 : decode cX12_setPower 80 = .ok (.aload_n 0, 1) := by decide +kernel
theorem dX12_setPower_81 : decode cX12_setPower 81 = .ok (.iload 4, 2) := by decide +kernel
theorem dX12_setPower_83 : decode cX12_setPower 83 = .ok (.invokevirtual 225, 3) := by decide +kernel
theorem dX12_setPower_86 : decode cX12_setPower 86 = .ok (.iconst (-1), 1) := by decide +kernel
theorem dX12_setPower_87 : decode cX12_setPower 87 = .ok (.if_icmp .ne 21, 3) := by decide +kernel
theorem dX12_setPower_90 : decode cX12_setPower 90 = .ok (.aload_n 0, 1) := by decide +kernel
theorem dX12_setPower_91 : decode cX12_setPower 91 = .ok (.getfield 105, 3) := by decide +kernel
theorem dX12_setPower_94 : decode cX12_setPower 94 = .ok (.iload 4, 2) := by decide +kernel
theorem dX12_setPower_96 : decode cX12_setPower 96 = .ok (.iconst 1, 1) := by decide +kernel
theorem dX12_setPower_97 : decode cX12_setPower 97 = .ok (.iastore, 1) := by decide +kernel
theorem dX12_setPower_98 : decode cX12_setPower 98 = .ok (.aload_n 0, 1) := by decide +kernel
theorem dX12_setPower_99 : decode cX12_setPower 99 = .ok (.getfield 129, 3) := by decide +kernel
theorem dX12_setPower_102 : decode cX12_setPower 102 = .ok (.iconst 2, 1) := by decide +kernel
theorem dX12_setPower_103 : decode cX12_setPower 103 = .ok (.dup2, 1) := by decide +kernel
theorem dX12_setPower_104 : decode cX12_setPower 104 = .ok (.iaload, 1) := by decide +kernel
theorem dX12_setPower_105 : decode cX12_setPower 105 = .ok (.iconst 1, 1) := by decide +kernel
theorem dX12_setPower_106 : decode cX12_setPower 106 = .ok (.iadd, 1) := by decide +kernel
theorem dX12_setPower_107 : decode cX12_setPower 107 = .ok (.iastore, 1) := by decide +kernel
theorem dX12_setPower_108 : decode cX12_setPower 108 = .ok (.iload_n 3, 1) := by decide +kernel
theorem dX12_setPower_109 : decode cX12_setPower 109 = .ok (.ireturn, 1) := by decide +kernel
theorem dX12_workerAt_0 : decode cX12_workerAt 0 = .ok (.iconst 0, 1) := by decide +kernel
theorem dX12_workerAt_1 : decode cX12_workerAt 1 = .ok (.istore_n 2, 1) := by decide +kernel
theorem dX12_workerAt_2 : decode cX12_workerAt 2 = .ok (.iload_n 2, 1) := by decide +kernel
theorem dX12_workerAt_3 : decode cX12_workerAt 3 = .ok (.iconst 4, 1) := by decide +kernel
theorem dX12_workerAt_4 : decode cX12_workerAt 4 = .ok (.if_icmp .ge 21, 3) := by decide +kernel
theorem dX12_workerAt_7 : decode cX12_workerAt 7 = .ok (.aload_n 0, 1) := by decide +kernel
theorem dX12_workerAt_8 : decode cX12_workerAt 8 = .ok (.getfield 87, 3) := by decide +kernel
theorem dX12_workerAt_11 : decode cX12_workerAt 11 = .ok (.iload_n 2, 1) := by decide +kernel
theorem dX12_workerAt_12 : decode cX12_workerAt 12 = .ok (.iaload, 1) := by decide +kernel
theorem dX12_workerAt_13 : decode cX12_workerAt 13 = .ok (.iload_n 1, 1) := by decide +kernel
theorem dX12_workerAt_14 : decode cX12_workerAt 14 = .ok (.if_icmp .ne 5, 3) := by decide +kernel
theorem dX12_workerAt_17 : decode cX12_workerAt 17 = .ok (.iload_n 2, 1) := by decide +kernel
theorem dX12_workerAt_18 : decode cX12_workerAt 18 = .ok (.ireturn, 1) := by decide +kernel
theorem dX12_workerAt_19 : decode cX12_workerAt 19 = .ok (.iinc 2 1, 3) := by decide +kernel
theorem dX12_workerAt_22 : decode cX12_workerAt 22 = .ok (.goto (-20), 3) := by decide +kernel
theorem dX12_workerAt_25 : decode cX12_workerAt 25 = .ok (.iconst (-1), 1) := by decide +kernel
theorem dX12_workerAt_26 : decode cX12_workerAt 26 = .ok (.ireturn, 1) := by decide +kernel
theorem dX12_setWays_0 : decode cX12_setWays 0 = .ok (.aload_n 0, 1) := by decide +kernel
theorem dX12_setWays_1 : decode cX12_setWays 1 = .ok (.iconst 0, 1) := by decide +kernel
theorem dX12_setWays_2 : decode cX12_setWays 2 = .ok (.putfield 150, 3) := by decide +kernel
theorem dX12_setWays_5 : decode cX12_setWays 5 = .ok (.aload_n 0, 1) := by decide +kernel
theorem dX12_setWays_6 : decode cX12_setWays 6 = .ok (.iload_n 1, 1) := by decide +kernel
theorem dX12_setWays_7 : decode cX12_setWays 7 = .ok (.putfield 58, 3) := by decide +kernel
theorem dX12_setWays_10 : decode cX12_setWays 10 = .ok (.aload_n 0, 1) := by decide +kernel
theorem dX12_setWays_11 : decode cX12_setWays 11 = .ok (.iload_n 2, 1) := by decide +kernel
theorem dX12_setWays_12 : decode cX12_setWays 12 = .ok (.putfield 228, 3) := by decide +kernel
theorem dX12_setWays_15 : decode cX12_setWays 15 = .ok (.return_, 1) := by decide +kernel
theorem dX12_isNeeded_0 : decode cX12_isNeeded 0 = .ok (.aload_n 0, 1) := by decide +kernel
theorem dX12_isNeeded_1 : decode cX12_isNeeded 1 = .ok (.getfield 231, 3) := by decide +kernel
theorem dX12_isNeeded_4 : decode cX12_isNeeded 4 = .ok (.iload_n 1, 1) := by decide +kernel
theorem dX12_isNeeded_5 : decode cX12_isNeeded 5 = .ok (.ishr, 1) := by decide +kernel
theorem dX12_isNeeded_6 : decode cX12_isNeeded 6 = .ok (.iconst 1, 1) := by decide +kernel
theorem dX12_isNeeded_7 : decode cX12_isNeeded 7 = .ok (.iand, 1) := by decide +kernel
theorem dX12_isNeeded_8 : decode cX12_isNeeded 8 = .ok (.iconst 1, 1) := by decide +kernel
theorem dX12_isNeeded_9 : decode cX12_isNeeded 9 = .ok (.if_icmp .ne 7, 3) := by decide +kernel
theorem dX12_isNeeded_12 : decode cX12_isNeeded 12 = .ok (.iconst 1, 1) := by decide +kernel
theorem dX12_isNeeded_13 : decode cX12_isNeeded 13 = .ok (.goto 4, 3) := by decide +kernel
theorem dX12_isNeeded_16 : decode cX12_isNeeded 16 = .ok (.iconst 0, 1) := by decide +kernel
theorem dX12_isNeeded_17 : decode cX12_isNeeded 17 = .ok (.ireturn, 1) := by decide +kernel
theorem dX12_build_0 : decode cX12_build 0 = .ok (.aload_n 0, 1) := by decide +kernel
theorem dX12_build_1 : decode cX12_build 1 = .ok (.iload_n 1, 1) := by decide +kernel
theorem dX12_build_2 : decode cX12_build 2 = .ok (.ifCond .le 17, 3) := by decide +kernel
theorem dX12_build_5 : decode cX12_build 5 = .ok (.iload_n 1, 1) := by decide +kernel
theorem dX12_build_6 : decode cX12_build 6 = .ok (.iconst 1, 1) := by decide +kernel
theorem dX12_build_7 : decode cX12_build 7 = .ok (.aload_n 0, 1) := by decide +kernel
theorem dX12_build_8 : decode cX12_build 8 = .ok (.getfield 154, 3) := by decide +kernel
theorem dX12_build_11 : decode cX12_build 11 = .ok (.ishl, 1) := by decide +kernel
theorem dX12_build_12 : decode cX12_build 12 = .ok (.if_icmp .ge 7, 3) := by decide +kernel
theorem dX12_build_15 : decode cX12_build 15 = .ok (.iconst 1, 1) := by decide +kernel
theorem dX12_build_16 : decode cX12_build 16 = .ok (.goto 4, 3) := by decide +kernel
theorem dX12_build_19 : decode cX12_build 19 = .ok (.iconst 0, 1) := by decide +kernel
theorem dX12_build_20 : decode cX12_build 20 = .ok (.aload_n 0, 1) := by decide +kernel
theorem dX12_build_21 : decode cX12_build 21 = .ok (.getfield 168, 3) := by decide +kernel
theorem dX12_build_24 : decode cX12_build 24 = .ok (.ifCond .ne 7, 3) := by decide +kernel
theorem dX12_build_27 : decode cX12_build 27 = .ok (.iconst 1, 1) := by decide +kernel
theorem dX12_build_28 : decode cX12_build 28 = .ok (.goto 4, 3) := by decide +kernel
theorem dX12_build_31 : decode cX12_build 31 = .ok (.iconst 0, 1) := by decide +kernel
theorem dX12_build_32 : decode cX12_build 32 = .ok (.invokevirtual 171, 3) := by decide +kernel
theorem dX12_build_35 : decode cX12_build 35 = .ok (.ifCond .ne 5, 3) := by decide +kernel
theorem dX12_build_38 : decode cX12_build 38 = .ok (.iconst 0, 1) := by decide +kernel
theorem dX12_build_39 : decode cX12_build 39 = .ok (.ireturn, 1) := by decide +kernel
theorem dX12_build_40 : decode cX12_build 40 = .ok (.aload_n 0, 1) := by decide +kernel
theorem dX12_build_41 : decode cX12_build 41 = .ok (.aload_n 0, 1) := by decide +kernel
theorem dX12_build_42 : decode cX12_build 42 = .ok (.iload_n 1, 1) := by decide +kernel
theorem dX12_build_43 : decode cX12_build 43 = .ok (.invokevirtual 234, 3) := by decide +kernel
theorem dX12_build_46 : decode cX12_build 46 = .ok (.putfield 231, 3) := by decide +kernel
theorem dX12_build_49 : decode cX12_build 49 = .ok (.aload_n 0, 1) := by decide +kernel
theorem dX12_build_50 : decode cX12_build 50 = .ok (.iconst 0, 1) := by decide +kernel
theorem dX12_build_51 : decode cX12_build 51 = .ok (.putfield 237, 3) := by decide +kernel
theorem dX12_build_54 : decode cX12_build 54 = .ok (.iconst 0, 1) := by decide +kernel
theorem dX12_build_55 : decode cX12_build 55 = .ok (.istore_n 2, 1) := by decide +kernel
theorem dX12_build_56 : decode cX12_build 56 = .ok (.iconst 0, 1) := by decide +kernel
theorem dX12_build_57 : decode cX12_build 57 = .ok (.istore_n 3, 1) := by decide +kernel
theorem dX12_build_58 : decode cX12_build 58 = .ok (.iload_n 3, 1) := by decide +kernel
theorem dX12_build_59 : decode cX12_build 59 = .ok (.aload_n 0, 1) := by decide +kernel
theorem dX12_build_60 : decode cX12_build 60 = .ok (.getfield 154, 3) := by decide +kernel
theorem dX12_build_63 : decode cX12_build 63 = .ok (.if_icmp .ge 83, 3) := by decide +kernel
theorem dX12_build_66 : decode cX12_build 66 = .ok (.iconst 0, 1) := by decide +kernel
theorem dX12_build_67 : decode cX12_build 67 = .ok (.istore 4, 2) := by decide +kernel
theorem dX12_build_69 : decode cX12_build 69 = .ok (.iload 4, 2) := by decide +kernel
theorem dX12_build_71 : decode cX12_build 71 = .ok (.iconst 4, 1) := by decide +kernel
theorem dX12_build_72 : decode cX12_build 72 = .ok (.if_icmp .ge 68, 3) := by decide +kernel
theorem dX12_build_75 : decode cX12_build 75 = .ok (.iconst 4, 1) := by decide +kernel
theorem dX12_build_76 : decode cX12_build 76 = .ok (.iload_n 3, 1) := by decide +kernel
theorem dX12_build_77 : decode cX12_build 77 = .ok (.imul, 1) := by decide +kernel
theorem dX12_build_78 : decode cX12_build 78 = .ok (.iload 4, 2) := by decide +kernel
theorem dX12_build_80 : decode cX12_build 80 = .ok (.iadd, 1) := by decide +kernel
theorem dX12_build_81 : decode cX12_build 81 = .ok (.istore 5, 2) := by decide +kernel
theorem dX12_build_83 : decode cX12_build 83 = .ok (.aload_n 0, 1) := by decide +kernel
theorem dX12_build_84 : decode cX12_build 84 = .ok (.getfield 105, 3) := by decide +kernel
theorem dX12_build_87 : decode cX12_build 87 = .ok (.iload 5, 2) := by decide +kernel
theorem dX12_build_89 : decode cX12_build 89 = .ok (.iconst 0, 1) := by decide +kernel
theorem dX12_build_90 : decode cX12_build 90 = .ok (.iastore, 1) := by decide +kernel
theorem dX12_build_91 : decode cX12_build 91 = .ok (.aload_n 0, 1) := by decide +kernel
theorem dX12_build_92 : decode cX12_build 92 = .ok (.getfield 114, 3) := by decide +kernel
theorem dX12_build_95 : decode cX12_build 95 = .ok (.iload 5, 2) := by decide +kernel
theorem dX12_build_97 : decode cX12_build 97 = .ok (.iconst 0, 1) := by decide +kernel
theorem dX12_build_98 : decode cX12_build 98 = .ok (.iastore, 1) := by decide +kernel
theorem dX12_build_99 : decode cX12_build 99 = .ok (.aload_n 0, 1) := by decide +kernel
theorem dX12_build_100 : decode cX12_build 100 = .ok (.getfield 117, 3) := by decide +kernel
theorem dX12_build_103 : decode cX12_build 103 = .ok (.iload 5, 2) := by decide +kernel
theorem dX12_build_105 : decode cX12_build 105 = .ok (.iconst 0, 1) := by decide +kernel
theorem dX12_build_106 : decode cX12_build 106 = .ok (.bastore, 1) := by decide +kernel
theorem dX12_build_107 : decode cX12_build 107 = .ok (.iload_n 2, 1) := by decide +kernel
theorem dX12_build_108 : decode cX12_build 108 = .ok (.aload_n 0, 1) := by decide +kernel
theorem dX12_build_109 : decode cX12_build 109 = .ok (.iload_n 3, 1) := by decide +kernel
theorem dX12_build_110 : decode cX12_build 110 = .ok (.invokevirtual 240, 3) := by decide +kernel
theorem dX12_build_113 : decode cX12_build 113 = .ok (.ifCond .eq 18, 3) := by decide +kernel
theorem dX12_build_116 : decode cX12_build 116 = .ok (.iload 4, 2) := by decide +kernel
theorem dX12_build_118 : decode cX12_build 118 = .ok (.aload_n 0, 1) := by decide +kernel
theorem dX12_build_119 : decode cX12_build 119 = .ok (.getfield 34, 3) := by decide +kernel
theorem dX12_build_122 : decode cX12_build 122 = .ok (.iload_n 3, 1) := by decide +kernel
theorem dX12_build_123 : decode cX12_build 123 = .ok (.iaload, 1) := by decide +kernel
theorem dX12_build_124 : decode cX12_build 124 = .ok (.if_icmp .ge 7, 3) := by decide +kernel
theorem dX12_build_127 : decode cX12_build 127 = .ok (.iconst 1, 1) := by decide +kernel
theorem dX12_build_128 : decode cX12_build 128 = .ok (.goto 4, 3) := by decide +kernel
theorem dX12_build_131 : decode cX12_build 131 = .ok (.iconst 0, 1) := by decide +kernel
theorem dX12_build_132 : decode cX12_build 132 = .ok (.iadd, 1) := by decide +kernel
theorem dX12_build_133 : decode cX12_build 133 = .ok (.istore_n 2, 1) := by decide +kernel
theorem dX12_build_134 : decode cX12_build 134 = .ok (.iinc 4 1, 3) := by decide +kernel
theorem dX12_build_137 : decode cX12_build 137 = .ok (.goto (-68), 3) := by decide +kernel
theorem dX12_build_140 : decode cX12_build 140 = .ok (.iinc 3 1, 3) := by decide +kernel
theorem dX12_build_143 : decode cX12_build 143 = .ok (.goto (-85), 3) := by decide +kernel
theorem dX12_build_146 : decode cX12_build 146 = .ok (.aload_n 0, 1) := by decide +kernel
theorem dX12_build_147 : decode cX12_build 147 = .ok (.iconst 1, 1) := by decide +kernel
theorem dX12_build_148 : decode cX12_build 148 = .ok (.putfield 168, 3) := by decide +kernel
theorem dX12_build_151 : decode cX12_build 151 = .ok (.aload_n 0, 1) := by decide +kernel
theorem dX12_build_152 : decode cX12_build 152 = .ok (.invokevirtual 243, 3) := by decide +kernel
theorem dX12_build_155 : decode cX12_build 155 = .ok (.iload_n 2, 1) := by decide +kernel
theorem dX12_build_156 : decode cX12_build 156 = .ok (.ireturn, 1) := by decide +kernel
theorem dX12_opens_0 : decode cX12_opens 0 = .ok (.aload_n 0, 1) := by decide +kernel
theorem dX12_opens_1 : decode cX12_opens 1 = .ok (.iconst 0, 1) := by decide +kernel
theorem dX12_opens_2 : decode cX12_opens 2 = .ok (.putfield 168, 3) := by decide +kernel
theorem dX12_opens_5 : decode cX12_opens 5 = .ok (.iconst 0, 1) := by decide +kernel
theorem dX12_opens_6 : decode cX12_opens 6 = .ok (.istore_n 1, 1) := by decide +kernel
theorem dX12_opens_7 : decode cX12_opens 7 = .ok (.iload_n 1, 1) := by decide +kernel
theorem dX12_opens_8 : decode cX12_opens 8 = .ok (.aload_n 0, 1) := by decide +kernel
theorem dX12_opens_9 : decode cX12_opens 9 = .ok (.getfield 154, 3) := by decide +kernel
theorem dX12_opens_12 : decode cX12_opens 12 = .ok (.if_icmp .ge 80, 3) := by decide +kernel
theorem dX12_opens_15 : decode cX12_opens 15 = .ok (.iconst 0, 1) := by decide +kernel
theorem dX12_opens_16 : decode cX12_opens 16 = .ok (.istore_n 2, 1) := by decide +kernel
theorem dX12_opens_17 : decode cX12_opens 17 = .ok (.iload_n 2, 1) := by decide +kernel
theorem dX12_opens_18 : decode cX12_opens 18 = .ok (.aload_n 0, 1) := by decide +kernel
theorem dX12_opens_19 : decode cX12_opens 19 = .ok (.getfield 34, 3) := by decide +kernel
theorem dX12_opens_22 : decode cX12_opens 22 = .ok (.iload_n 1, 1) := by decide +kernel
theorem dX12_opens_23 : decode cX12_opens 23 = .ok (.iaload, 1) := by decide +kernel
theorem dX12_opens_24 : decode cX12_opens 24 = .ok (.if_icmp .ge 62, 3) := by decide +kernel
theorem dX12_opens_27 : decode cX12_opens 27 = .ok (.aload_n 0, 1) := by decide +kernel
theorem dX12_opens_28 : decode cX12_opens 28 = .ok (.iload_n 1, 1) := by decide +kernel
theorem dX12_opens_29 : decode cX12_opens 29 = .ok (.invokevirtual 240, 3) := by decide +kernel
theorem dX12_opens_32 : decode cX12_opens 32 = .ok (.ifCond .eq 54, 3) := by decide +kernel
theorem dX12_opens_35 : decode cX12_opens 35 = .ok (.iconst 4, 1) := by decide +kernel
theorem dX12_opens_36 : decode cX12_opens 36 = .ok (.iload_n 1, 1) := by decide +kernel
theorem dX12_opens_37 : decode cX12_opens 37 = .ok (.imul, 1) := by decide +kernel
theorem dX12_opens_38 : decode cX12_opens 38 = .ok (.iload_n 2, 1) := by decide +kernel
theorem dX12_opens_39 : decode cX12_opens 39 = .ok (.iadd, 1) := by decide +kernel
theorem dX12_opens_40 : decode cX12_opens 40 = .ok (.istore_n 3, 1) := by decide +kernel
theorem dX12_opens_41 : decode cX12_opens 41 = .ok (.aload_n 0, 1) := by decide +kernel
theorem dX12_opens_42 : decode cX12_opens 42 = .ok (.getfield 105, 3) := by decide +kernel
theorem dX12_opens_45 : decode cX12_opens 45 = .ok (.iload_n 3, 1) := by decide +kernel
theorem dX12_opens_46 : decode cX12_opens 46 = .ok (.iaload, 1) := by decide +kernel
theorem dX12_opens_47 : decode cX12_opens 47 = .ok (.ifCond .ne 9, 3) := by decide +kernel
theorem dX12_opens_50 : decode cX12_opens 50 = .ok (.aload_n 0, 1) := by decide +kernel
theorem dX12_opens_51 : decode cX12_opens 51 = .ok (.iload_n 1, 1) := by decide +kernel
theorem dX12_opens_52 : decode cX12_opens 52 = .ok (.iload_n 3, 1) := by decide +kernel
theorem dX12_opens_53 : decode cX12_opens 53 = .ok (.invokevirtual 246, 3) := by decide +kernel
theorem dX12_opens_56 : decode cX12_opens 56 = .ok (.aload_n 0, 1) := by decide +kernel
theorem dX12_opens_57 : decode cX12_opens 57 = .ok (.dup, 1) := by decide +kernel
theorem dX12_opens_58 : decode cX12_opens 58 = .ok (.getfield 168, 3) := by decide +kernel
theorem dX12_opens_61 : decode cX12_opens 61 = .ok (.aload_n 0, 1) := by decide +kernel
theorem dX12_opens_62 : decode cX12_opens 62 = .ok (.getfield 105, 3) := by decide +kernel
theorem dX12_opens_65 : decode cX12_opens 65 = .ok (.iload_n 3, 1) := by decide +kernel
theorem dX12_opens_66 : decode cX12_opens 66 = .ok (.iaload, 1) := by decide +kernel
theorem dX12_opens_67 : decode cX12_opens 67 = .ok (.iconst 3, 1) := by decide +kernel
theorem dX12_opens_68 : decode cX12_opens 68 = .ok (.if_icmp .ge 7, 3) := by decide +kernel
theorem dX12_opens_71 : decode cX12_opens 71 = .ok (.iconst 1, 1) := by decide +kernel
theorem dX12_opens_72 : decode cX12_opens 72 = .ok (.goto 4, 3) := by decide +kernel
theorem dX12_opens_75 : decode cX12_opens 75 = .ok (.iconst 0, 1) := by decide +kernel
theorem dX12_opens_76 : decode cX12_opens 76 = .ok (.ior, 1) := by decide +kernel
theorem dX12_opens_77 : decode cX12_opens 77 = .ok (.putfield 168, 3) := by decide +kernel
theorem dX12_opens_80 : decode cX12_opens 80 = .ok (.iinc 2 1, 3) := by decide +kernel
theorem dX12_opens_83 : decode cX12_opens 83 = .ok (.goto (-66), 3) := by decide +kernel
theorem dX12_opens_86 : decode cX12_opens 86 = .ok (.iinc 1 1, 3) := by decide +kernel
theorem dX12_opens_89 : decode cX12_opens 89 = .ok (.goto (-82), 3) := by decide +kernel
theorem dX12_opens_92 : decode cX12_opens 92 = .ok (.return_, 1) := by decide +kernel
theorem dX12_opensOne_0 : decode cX12_opensOne 0 = .ok (.iconst 0, 1) := by decide +kernel
theorem dX12_opensOne_1 : decode cX12_opensOne 1 = .ok (.istore_n 3, 1) := by decide +kernel
theorem dX12_opensOne_2 : decode cX12_opensOne 2 = .ok (.iconst 0, 1) := by decide +kernel
theorem dX12_opensOne_3 : decode cX12_opensOne 3 = .ok (.istore 4, 2) := by decide +kernel
theorem dX12_opensOne_5 : decode cX12_opensOne 5 = .ok (.iconst 0, 1) := by decide +kernel
theorem dX12_opensOne_6 : decode cX12_opensOne 6 = .ok (.istore 5, 2) := by decide +kernel
theorem dX12_opensOne_8 : decode cX12_opensOne 8 = .ok (.iload 5, 2) := by decide +kernel
theorem dX12_opensOne_10 : decode cX12_opensOne 10 = .ok (.aload_n 0, 1) := by decide +kernel
theorem dX12_opensOne_11 : decode cX12_opensOne 11 = .ok (.getfield 43, 3) := by decide +kernel
theorem dX12_opensOne_14 : decode cX12_opensOne 14 = .ok (.iload_n 1, 1) := by decide +kernel
theorem dX12_opensOne_15 : decode cX12_opensOne 15 = .ok (.iaload, 1) := by decide +kernel
theorem dX12_opensOne_16 : decode cX12_opensOne 16 = .ok (.if_icmp .ge 97, 3) := by decide +kernel
theorem dX12_opensOne_19 : decode cX12_opensOne 19 = .ok (.aload_n 0, 1) := by decide +kernel
theorem dX12_opensOne_20 : decode cX12_opensOne 20 = .ok (.iload_n 1, 1) := by decide +kernel
theorem dX12_opensOne_21 : decode cX12_opensOne 21 = .ok (.iload 5, 2) := by decide +kernel
theorem dX12_opensOne_23 : decode cX12_opensOne 23 = .ok (.invokevirtual 186, 3) := by decide +kernel
theorem dX12_opensOne_26 : decode cX12_opensOne 26 = .ok (.bipush 16, 2) := by decide +kernel
theorem dX12_opensOne_28 : decode cX12_opensOne 28 = .ok (.isub, 1) := by decide +kernel
theorem dX12_opensOne_29 : decode cX12_opensOne 29 = .ok (.istore 6, 2) := by decide +kernel
theorem dX12_opensOne_31 : decode cX12_opensOne 31 = .ok (.iconst 0, 1) := by decide +kernel
theorem dX12_opensOne_32 : decode cX12_opensOne 32 = .ok (.istore 7, 2) := by decide +kernel
theorem dX12_opensOne_34 : decode cX12_opensOne 34 = .ok (.iload 6, 2) := by decide +kernel
theorem dX12_opensOne_36 : decode cX12_opensOne 36 = .ok (.ifCond .lt 71, 3) := by decide +kernel
theorem dX12_opensOne_39 : decode cX12_opensOne 39 = .ok (.iload 7, 2) := by decide +kernel
theorem dX12_opensOne_41 : decode cX12_opensOne 41 = .ok (.aload_n 0, 1) := by decide +kernel
theorem dX12_opensOne_42 : decode cX12_opensOne 42 = .ok (.getfield 34, 3) := by decide +kernel
theorem dX12_opensOne_45 : decode cX12_opensOne 45 = .ok (.iload 6, 2) := by decide +kernel
theorem dX12_opensOne_47 : decode cX12_opensOne 47 = .ok (.iaload, 1) := by decide +kernel
theorem dX12_opensOne_48 : decode cX12_opensOne 48 = .ok (.if_icmp .ge 59, 3) := by decide +kernel
theorem dX12_opensOne_51 : decode cX12_opensOne 51 = .ok (.iload_n 3, 1) := by decide +kernel
theorem dX12_opensOne_52 : decode cX12_opensOne 52 = .ok (.aload_n 0, 1) := by decide +kernel
theorem dX12_opensOne_53 : decode cX12_opensOne 53 = .ok (.getfield 105, 3) := by decide +kernel
theorem dX12_opensOne_56 : decode cX12_opensOne 56 = .ok (.iconst 4, 1) := by decide +kernel
theorem dX12_opensOne_57 : decode cX12_opensOne 57 = .ok (.iload 6, 2) := by decide +kernel
theorem dX12_opensOne_59 : decode cX12_opensOne 59 = .ok (.imul, 1) := by decide +kernel
theorem dX12_opensOne_60 : decode cX12_opensOne 60 = .ok (.iload 7, 2) := by decide +kernel
theorem dX12_opensOne_62 : decode cX12_opensOne 62 = .ok (.iadd, 1) := by decide +kernel
theorem dX12_opensOne_63 : decode cX12_opensOne 63 = .ok (.iaload, 1) := by decide +kernel
theorem dX12_opensOne_64 : decode cX12_opensOne 64 = .ok (.iconst 3, 1) := by decide +kernel
theorem dX12_opensOne_65 : decode cX12_opensOne 65 = .ok (.if_icmp .ge 7, 3) := by decide +kernel
theorem dX12_opensOne_68 : decode cX12_opensOne 68 = .ok (.iconst 1, 1) := by decide +kernel
theorem dX12_opensOne_69 : decode cX12_opensOne 69 = .ok (.goto 4, 3) := by decide +kernel
theorem dX12_opensOne_72 : decode cX12_opensOne 72 = .ok (.iconst 0, 1) := by decide +kernel
theorem dX12_opensOne_73 : decode cX12_opensOne 73 = .ok (.ior, 1) := by decide +kernel
theorem dX12_opensOne_74 : decode cX12_opensOne 74 = .ok (.istore_n 3, 1) := by decide +kernel
theorem dX12_opensOne_75 : decode cX12_opensOne 75 = .ok (.iload 4, 2) := by decide +kernel
theorem dX12_opensOne_77 : decode cX12_opensOne 77 = .ok (.aload_n 0, 1) := by decide +kernel
theorem dX12_opensOne_78 : decode cX12_opensOne 78 = .ok (.getfield 105, 3) := by decide +kernel
theorem dX12_opensOne_81 : decode cX12_opensOne 81 = .ok (.iconst 4, 1) := by decide +kernel
theorem dX12_opensOne_82 : decode cX12_opensOne 82 = .ok (.iload 6, 2) := by decide +kernel
theorem dX12_opensOne_84 : decode cX12_opensOne 84 = .ok (.imul, 1) := by decide +kernel
theorem dX12_opensOne_85 : decode cX12_opensOne 85 = .ok (.iload 7, 2) := by decide +kernel
theorem dX12_opensOne_87 : decode cX12_opensOne 87 = .ok (.iadd, 1) := by decide +kernel
theorem dX12_opensOne_88 : decode cX12_opensOne 88 = .ok (.iaload, 1) := by decide +kernel
theorem dX12_opensOne_89 : decode cX12_opensOne 89 = .ok (.iconst 3, 1) := by decide +kernel
theorem dX12_opensOne_90 : decode cX12_opensOne 90 = .ok (.if_icmp .le 7, 3) := by decide +kernel
theorem dX12_opensOne_93 : decode cX12_opensOne 93 = .ok (.iconst 1, 1) := by decide +kernel
theorem dX12_opensOne_94 : decode cX12_opensOne 94 = .ok (.goto 4, 3) := by decide +kernel
theorem dX12_opensOne_97 : decode cX12_opensOne 97 = .ok (.iconst 0, 1) := by decide +kernel
theorem dX12_opensOne_98 : decode cX12_opensOne 98 = .ok (.ior, 1) := by decide +kernel
theorem dX12_opensOne_99 : decode cX12_opensOne 99 = .ok (.istore 4, 2) := by decide +kernel
theorem dX12_opensOne_101 : decode cX12_opensOne 101 = .ok (.iinc 7 1, 3) := by decide +kernel
theorem dX12_opensOne_104 : decode cX12_opensOne 104 = .ok (.goto (-70), 3) := by decide +kernel
theorem dX12_opensOne_107 : decode cX12_opensOne 107 = .ok (.iinc 5 1, 3) := by decide +kernel
theorem dX12_opensOne_110 : decode cX12_opensOne 110 = .ok (.goto (-102), 3) := by decide +kernel
theorem dX12_opensOne_113 : decode cX12_opensOne 113 = .ok (.iload_n 3, 1) := by decide +kernel
theorem dX12_opensOne_114 : decode cX12_opensOne 114 = .ok (.ifCond .eq 4, 3) := by decide +kernel
theorem dX12_opensOne_117 : decode cX12_opensOne 117 = .ok (.return_, 1) := by decide +kernel
theorem dX12_opensOne_118 : decode cX12_opensOne 118 = .ok (.iload 4, 2) := by decide +kernel
theorem dX12_opensOne_120 : decode cX12_opensOne 120 = .ok (.ifCond .eq 7, 3) := by decide +kernel
theorem dX12_opensOne_123 : decode cX12_opensOne 123 = .ok (.iconst (-1), 1) := by decide +kernel
theorem dX12_opensOne_124 : decode cX12_opensOne 124 = .ok (.goto 8, 3) := by decide +kernel
theorem dX12_opensOne_127 : decode cX12_opensOne 127 = .ok (.aload_n 0, 1) := by decide +kernel
theorem dX12_opensOne_128 : decode cX12_opensOne 128 = .ok (.iload_n 2, 1) := by decide +kernel
theorem dX12_opensOne_129 : decode cX12_opensOne 129 = .ok (.invokevirtual 249, 3) := by decide +kernel
theorem dX12_opensOne_132 : decode cX12_opensOne 132 = .ok (.istore 5, 2) := by decide +kernel
theorem dX12_opensOne_134 : decode cX12_opensOne 134 = .ok (.iload 5, 2) := by decide +kernel
theorem dX12_opensOne_136 : decode cX12_opensOne 136 = .ok (.iconst (-1), 1) := by decide +kernel
theorem dX12_opensOne_137 : decode cX12_opensOne 137 = .ok (.if_icmp .eq 49, 3) := by decide +kernel
theorem dX12_opensOne_140 : decode cX12_opensOne 140 = .ok (.aload_n 0, 1) := by decide +kernel
theorem dX12_opensOne_141 : decode cX12_opensOne 141 = .ok (.getfield 105, 3) := by decide +kernel
theorem dX12_opensOne_144 : decode cX12_opensOne 144 = .ok (.iload_n 2, 1) := by decide +kernel
theorem dX12_opensOne_145 : decode cX12_opensOne 145 = .ok (.iconst 3, 1) := by decide +kernel
theorem dX12_opensOne_146 : decode cX12_opensOne 146 = .ok (.iastore, 1) := by decide +kernel
theorem dX12_opensOne_147 : decode cX12_opensOne 147 = .ok (.aload_n 0, 1) := by decide +kernel
theorem dX12_opensOne_148 : decode cX12_opensOne 148 = .ok (.getfield 108, 3) := by decide +kernel
theorem dX12_opensOne_151 : decode cX12_opensOne 151 = .ok (.iload_n 2, 1) := by decide +kernel
theorem dX12_opensOne_152 : decode cX12_opensOne 152 = .ok (.aload_n 0, 1) := by decide +kernel
theorem dX12_opensOne_153 : decode cX12_opensOne 153 = .ok (.getfield 71, 3) := by decide +kernel
theorem dX12_opensOne_156 : decode cX12_opensOne 156 = .ok (.iload 5, 2) := by decide +kernel
theorem dX12_opensOne_158 : decode cX12_opensOne 158 = .ok (.iaload, 1) := by decide +kernel
theorem dX12_opensOne_159 : decode cX12_opensOne 159 = .ok (.iastore, 1) := by decide +kernel
theorem dX12_opensOne_160 : decode cX12_opensOne 160 = .ok (.aload_n 0, 1) := by decide +kernel
theorem dX12_opensOne_161 : decode cX12_opensOne 161 = .ok (.getfield 111, 3) := by decide +kernel
theorem dX12_opensOne_164 : decode cX12_opensOne 164 = .ok (.iload_n 2, 1) := by decide +kernel
theorem dX12_opensOne_165 : decode cX12_opensOne 165 = .ok (.aload_n 0, 1) := by decide +kernel
theorem dX12_opensOne_166 : decode cX12_opensOne 166 = .ok (.getfield 74, 3) := by decide +kernel
theorem dX12_opensOne_169 : decode cX12_opensOne 169 = .ok (.iload 5, 2) := by decide +kernel
theorem dX12_opensOne_171 : decode cX12_opensOne 171 = .ok (.iaload, 1) := by decide +kernel
theorem dX12_opensOne_172 : decode cX12_opensOne 172 = .ok (.iastore, 1) := by decide +kernel
theorem dX12_opensOne_173 : decode cX12_opensOne 173 = .ok (.aload_n 0, 1) := by decide +kernel
theorem dX12_opensOne_174 : decode cX12_opensOne 174 = .ok (.getfield 129, 3) := by decide +kernel
theorem dX12_opensOne_177 : decode cX12_opensOne 177 = .ok (.iconst 1, 1) := by decide +kernel
theorem dX12_opensOne_178 : decode cX12_opensOne 178 = .ok (.dup2, 1) := by decide +kernel
theorem dX12_opensOne_179 : decode cX12_opensOne 179 = .ok (.iaload, 1) := by decide +kernel
theorem dX12_opensOne_180 : decode cX12_opensOne 180 = .ok (.iconst 1, 1) := by decide +kernel
theorem dX12_opensOne_181 : decode cX12_opensOne 181 = .ok (.iadd, 1) := by decide +kernel
theorem dX12_opensOne_182 : decode cX12_opensOne 182 = .ok (.iastore, 1) := by decide +kernel
theorem dX12_opensOne_183 : decode cX12_opensOne 183 = .ok (.goto 26, 3) := by decide +kernel
theorem dX12_opensOne_186 : decode cX12_opensOne 186 = .ok (.aload_n 0, 1) := by decide +kernel
theorem dX12_opensOne_187 : decode cX12_opensOne 187 = .ok (.getfield 105, 3) := by decide +kernel
theorem dX12_opensOne_190 : decode cX12_opensOne 190 = .ok (.iload_n 2, 1) := by decide +kernel
theorem dX12_opensOne_191 : decode cX12_opensOne 191 = .ok (.iload 4, 2) := by decide +kernel
theorem dX12_opensOne_193 : decode cX12_opensOne 193 = .ok (.ifCond .eq 7, 3) := by decide +kernel
theorem dX12_opensOne_196 : decode cX12_opensOne 196 = .ok (.iconst 5, 1) := by decide +kernel
theorem dX12_opensOne_197 : decode cX12_opensOne 197 = .ok (.goto 4, 3) := by decide +kernel
theorem dX12_opensOne_200 : decode cX12_opensOne 200 = .ok (.iconst 1, 1) := by decide +kernel
theorem dX12_opensOne_201 : decode cX12_opensOne 201 = .ok (.iastore, 1) := by decide +kernel
theorem dX12_opensOne_202 : decode cX12_opensOne 202 = .ok (.aload_n 0, 1) := by decide +kernel
theorem dX12_opensOne_203 : decode cX12_opensOne 203 = .ok (.getfield 114, 3) := by decide +kernel
theorem dX12_opensOne_206 : decode cX12_opensOne 206 = .ok (.iload_n 2, 1) := by decide +kernel
theorem dX12_opensOne_207 : decode cX12_opensOne 207 = .ok (.iconst 0, 1) := by decide +kernel
theorem dX12_opensOne_208 : decode cX12_opensOne 208 = .ok (.iastore, 1) := by decide +kernel
theorem dX12_opensOne_209 : decode cX12_opensOne 209 = .ok (.return_, 1) := by decide +kernel
theorem dX12_wayOf_0 : decode cX12_wayOf 0 = .ok (.iconst 0, 1) := by decide +kernel
theorem dX12_wayOf_1 : decode cX12_wayOf 1 = .ok (.istore_n 2, 1) := by decide +kernel
theorem dX12_wayOf_2 : decode cX12_wayOf 2 = .ok (.aload_n 0, 1) := by decide +kernel
theorem dX12_wayOf_3 : decode cX12_wayOf 3 = .ok (.getfield 154, 3) := by decide +kernel
theorem dX12_wayOf_6 : decode cX12_wayOf 6 = .ok (.iconst 1, 1) := by decide +kernel
theorem dX12_wayOf_7 : decode cX12_wayOf 7 = .ok (.isub, 1) := by decide +kernel
theorem dX12_wayOf_8 : decode cX12_wayOf 8 = .ok (.istore_n 3, 1) := by decide +kernel
theorem dX12_wayOf_9 : decode cX12_wayOf 9 = .ok (.iload_n 3, 1) := by decide +kernel
theorem dX12_wayOf_10 : decode cX12_wayOf 10 = .ok (.iload_n 1, 1) := by decide +kernel
theorem dX12_wayOf_11 : decode cX12_wayOf 11 = .ok (.if_icmp .lt 121, 3) := by decide +kernel
theorem dX12_wayOf_14 : decode cX12_wayOf 14 = .ok (.aload_n 0, 1) := by decide +kernel
theorem dX12_wayOf_15 : decode cX12_wayOf 15 = .ok (.iload_n 3, 1) := by decide +kernel
theorem dX12_wayOf_16 : decode cX12_wayOf 16 = .ok (.invokevirtual 240, 3) := by decide +kernel
theorem dX12_wayOf_19 : decode cX12_wayOf 19 = .ok (.ifCond .eq 107, 3) := by decide +kernel
theorem dX12_wayOf_22 : decode cX12_wayOf 22 = .ok (.iconst 0, 1) := by decide +kernel
theorem dX12_wayOf_23 : decode cX12_wayOf 23 = .ok (.istore 4, 2) := by decide +kernel
theorem dX12_wayOf_25 : decode cX12_wayOf 25 = .ok (.iload_n 3, 1) := by decide +kernel
theorem dX12_wayOf_26 : decode cX12_wayOf 26 = .ok (.iconst 1, 1) := by decide +kernel
theorem dX12_wayOf_27 : decode cX12_wayOf 27 = .ok (.iadd, 1) := by decide +kernel
theorem dX12_wayOf_28 : decode cX12_wayOf 28 = .ok (.istore 5, 2) := by decide +kernel
theorem dX12_wayOf_30 : decode cX12_wayOf 30 = .ok (.iload 5, 2) := by decide +kernel
theorem dX12_wayOf_32 : decode cX12_wayOf 32 = .ok (.aload_n 0, 1) := by decide +kernel
theorem dX12_wayOf_33 : decode cX12_wayOf 33 = .ok (.getfield 154, 3) := by decide +kernel
theorem dX12_wayOf_36 : decode cX12_wayOf 36 = .ok (.if_icmp .ge 54, 3) := by decide +kernel
theorem dX12_wayOf_39 : decode cX12_wayOf 39 = .ok (.aload_n 0, 1) := by decide +kernel
theorem dX12_wayOf_40 : decode cX12_wayOf 40 = .ok (.iload 5, 2) := by decide +kernel
theorem dX12_wayOf_42 : decode cX12_wayOf 42 = .ok (.invokevirtual 240, 3) := by decide +kernel
theorem dX12_wayOf_45 : decode cX12_wayOf 45 = .ok (.ifCond .eq 35, 3) := by decide +kernel
theorem dX12_wayOf_48 : decode cX12_wayOf 48 = .ok (.aload_n 0, 1) := by decide +kernel
theorem dX12_wayOf_49 : decode cX12_wayOf 49 = .ok (.iload 5, 2) := by decide +kernel
theorem dX12_wayOf_51 : decode cX12_wayOf 51 = .ok (.iload_n 3, 1) := by decide +kernel
theorem dX12_wayOf_52 : decode cX12_wayOf 52 = .ok (.invokevirtual 252, 3) := by decide +kernel
theorem dX12_wayOf_55 : decode cX12_wayOf 55 = .ok (.ifCond .eq 25, 3) := by decide +kernel
theorem dX12_wayOf_58 : decode cX12_wayOf 58 = .ok (.aload_n 0, 1) := by decide +kernel
theorem dX12_wayOf_59 : decode cX12_wayOf 59 = .ok (.getfield 144, 3) := by decide +kernel
theorem dX12_wayOf_62 : decode cX12_wayOf 62 = .ok (.iload 5, 2) := by decide +kernel
theorem dX12_wayOf_64 : decode cX12_wayOf 64 = .ok (.iaload, 1) := by decide +kernel
theorem dX12_wayOf_65 : decode cX12_wayOf 65 = .ok (.iload 4, 2) := by decide +kernel
theorem dX12_wayOf_67 : decode cX12_wayOf 67 = .ok (.if_icmp .le 13, 3) := by decide +kernel
theorem dX12_wayOf_70 : decode cX12_wayOf 70 = .ok (.aload_n 0, 1) := by decide +kernel
theorem dX12_wayOf_71 : decode cX12_wayOf 71 = .ok (.getfield 144, 3) := by decide +kernel
theorem dX12_wayOf_74 : decode cX12_wayOf 74 = .ok (.iload 5, 2) := by decide +kernel
theorem dX12_wayOf_76 : decode cX12_wayOf 76 = .ok (.iaload, 1) := by decide +kernel
theorem dX12_wayOf_77 : decode cX12_wayOf 77 = .ok (.goto 5, 3) := by decide +kernel
theorem dX12_wayOf_80 : decode cX12_wayOf 80 = .ok (.iload 4, 2) := by decide +kernel
theorem dX12_wayOf_82 : decode cX12_wayOf 82 = .ok (.istore 4, 2) := by decide +kernel
theorem dX12_wayOf_84 : decode cX12_wayOf 84 = .ok (.iinc 5 1, 3) := by decide +kernel
theorem dX12_wayOf_87 : decode cX12_wayOf 87 = .ok (.goto (-57), 3) := by decide +kernel
theorem dX12_wayOf_90 : decode cX12_wayOf 90 = .ok (.aload_n 0, 1) := by decide +kernel
theorem dX12_wayOf_91 : decode cX12_wayOf 91 = .ok (.getfield 144, 3) := by decide +kernel
theorem dX12_wayOf_94 : decode cX12_wayOf 94 = .ok (.iload_n 3, 1) := by decide +kernel
theorem dX12_wayOf_95 : decode cX12_wayOf 95 = .ok (.aload_n 0, 1) := by decide +kernel
theorem dX12_wayOf_96 : decode cX12_wayOf 96 = .ok (.getfield 126, 3) := by decide +kernel
theorem dX12_wayOf_99 : decode cX12_wayOf 99 = .ok (.iload_n 3, 1) := by decide +kernel
theorem dX12_wayOf_100 : decode cX12_wayOf 100 = .ok (.iaload, 1) := by decide +kernel
theorem dX12_wayOf_101 : decode cX12_wayOf 101 = .ok (.iconst (-1), 1) := by decide +kernel
theorem dX12_wayOf_102 : decode cX12_wayOf 102 = .ok (.if_icmp .ne 7, 3) := by decide +kernel
theorem dX12_wayOf_105 : decode cX12_wayOf 105 = .ok (.iconst 5, 1) := by decide +kernel
theorem dX12_wayOf_106 : decode cX12_wayOf 106 = .ok (.goto 9, 3) := by decide +kernel
theorem dX12_wayOf_109 : decode cX12_wayOf 109 = .ok (.aload_n 0, 1) := by decide +kernel
theorem dX12_wayOf_110 : decode cX12_wayOf 110 = .ok (.getfield 126, 3) := by decide +kernel
theorem dX12_wayOf_113 : decode cX12_wayOf 113 = .ok (.iload_n 3, 1) := by decide +kernel
theorem dX12_wayOf_114 : decode cX12_wayOf 114 = .ok (.iaload, 1) := by decide +kernel
theorem dX12_wayOf_115 : decode cX12_wayOf 115 = .ok (.iload 4, 2) := by decide +kernel
theorem dX12_wayOf_117 : decode cX12_wayOf 117 = .ok (.iadd, 1) := by decide +kernel
theorem dX12_wayOf_118 : decode cX12_wayOf 118 = .ok (.iastore, 1) := by decide +kernel
theorem dX12_wayOf_119 : decode cX12_wayOf 119 = .ok (.aload_n 0, 1) := by decide +kernel
theorem dX12_wayOf_120 : decode cX12_wayOf 120 = .ok (.getfield 144, 3) := by decide +kernel
theorem dX12_wayOf_123 : decode cX12_wayOf 123 = .ok (.iload_n 3, 1) := by decide +kernel
theorem dX12_wayOf_124 : decode cX12_wayOf 124 = .ok (.iaload, 1) := by decide +kernel
theorem dX12_wayOf_125 : decode cX12_wayOf 125 = .ok (.istore_n 2, 1) := by decide +kernel
theorem dX12_wayOf_126 : decode cX12_wayOf 126 = .ok (.iinc 3 (-1), 3) := by decide +kernel
theorem dX12_wayOf_129 : decode cX12_wayOf 129 = .ok (.goto (-120), 3) := by decide +kernel
theorem dX12_wayOf_132 : decode cX12_wayOf 132 = .ok (.iload_n 2, 1) := by decide +kernel
theorem dX12_wayOf_133 : decode cX12_wayOf 133 = .ok (.ireturn, 1) := by decide +kernel
theorem dX12_hasInput_0 : decode cX12_hasInput 0 = .ok (.iconst 0, 1) := by decide +kernel
theorem dX12_hasInput_1 : decode cX12_hasInput 1 = .ok (.istore_n 3, 1) := by decide +kernel
theorem dX12_hasInput_2 : decode cX12_hasInput 2 = .ok (.iconst 0, 1) := by decide +kernel
theorem dX12_hasInput_3 : decode cX12_hasInput 3 = .ok (.istore 4, 2) := by decide +kernel
theorem dX12_hasInput_5 : decode cX12_hasInput 5 = .ok (.iload 4, 2) := by decide +kernel
theorem dX12_hasInput_7 : decode cX12_hasInput 7 = .ok (.aload_n 0, 1) := by decide +kernel
theorem dX12_hasInput_8 : decode cX12_hasInput 8 = .ok (.getfield 43, 3) := by decide +kernel
theorem dX12_hasInput_11 : decode cX12_hasInput 11 = .ok (.iload_n 1, 1) := by decide +kernel
theorem dX12_hasInput_12 : decode cX12_hasInput 12 = .ok (.iaload, 1) := by decide +kernel
theorem dX12_hasInput_13 : decode cX12_hasInput 13 = .ok (.if_icmp .ge 31, 3) := by decide +kernel
theorem dX12_hasInput_16 : decode cX12_hasInput 16 = .ok (.iload_n 3, 1) := by decide +kernel
theorem dX12_hasInput_17 : decode cX12_hasInput 17 = .ok (.aload_n 0, 1) := by decide +kernel
theorem dX12_hasInput_18 : decode cX12_hasInput 18 = .ok (.iload_n 1, 1) := by decide +kernel
theorem dX12_hasInput_19 : decode cX12_hasInput 19 = .ok (.iload 4, 2) := by decide +kernel
theorem dX12_hasInput_21 : decode cX12_hasInput 21 = .ok (.invokevirtual 186, 3) := by decide +kernel
theorem dX12_hasInput_24 : decode cX12_hasInput 24 = .ok (.bipush 16, 2) := by decide +kernel
theorem dX12_hasInput_26 : decode cX12_hasInput 26 = .ok (.iload_n 2, 1) := by decide +kernel
theorem dX12_hasInput_27 : decode cX12_hasInput 27 = .ok (.iadd, 1) := by decide +kernel
theorem dX12_hasInput_28 : decode cX12_hasInput 28 = .ok (.if_icmp .ne 7, 3) := by decide +kernel
theorem dX12_hasInput_31 : decode cX12_hasInput 31 = .ok (.iconst 1, 1) := by decide +kernel
theorem dX12_hasInput_32 : decode cX12_hasInput 32 = .ok (.goto 4, 3) := by decide +kernel
theorem dX12_hasInput_35 : decode cX12_hasInput 35 = .ok (.iconst 0, 1) := by decide +kernel
theorem dX12_hasInput_36 : decode cX12_hasInput 36 = .ok (.ior, 1) := by decide +kernel
theorem dX12_hasInput_37 : decode cX12_hasInput 37 = .ok (.istore_n 3, 1) := by decide +kernel
theorem dX12_hasInput_38 : decode cX12_hasInput 38 = .ok (.iinc 4 1, 3) := by decide +kernel
theorem dX12_hasInput_41 : decode cX12_hasInput 41 = .ok (.goto (-36), 3) := by decide +kernel
theorem dX12_hasInput_44 : decode cX12_hasInput 44 = .ok (.iload_n 3, 1) := by decide +kernel
theorem dX12_hasInput_45 : decode cX12_hasInput 45 = .ok (.ireturn, 1) := by decide +kernel
theorem dX12_ticksOf_0 : decode cX12_ticksOf 0 = .ok (.iload_n 1, 1) := by decide +kernel
theorem dX12_ticksOf_1 : decode cX12_ticksOf 1 = .ok (.iconst 4, 1) := by decide +kernel
theorem dX12_ticksOf_2 : decode cX12_ticksOf 2 = .ok (.idiv, 1) := by decide +kernel
theorem dX12_ticksOf_3 : decode cX12_ticksOf 3 = .ok (.istore_n 3, 1) := by decide +kernel
theorem dX12_ticksOf_4 : decode cX12_ticksOf 4 = .ok (.bipush 6, 2) := by decide +kernel
theorem dX12_ticksOf_6 : decode cX12_ticksOf 6 = .ok (.iconst 2, 1) := by decide +kernel
theorem dX12_ticksOf_7 : decode cX12_ticksOf 7 = .ok (.aload_n 0, 1) := by decide +kernel
theorem dX12_ticksOf_8 : decode cX12_ticksOf 8 = .ok (.getfield 43, 3) := by decide +kernel
theorem dX12_ticksOf_11 : decode cX12_ticksOf 11 = .ok (.iload_n 3, 1) := by decide +kernel
theorem dX12_ticksOf_12 : decode cX12_ticksOf 12 = .ok (.iaload, 1) := by decide +kernel
theorem dX12_ticksOf_13 : decode cX12_ticksOf 13 = .ok (.imul, 1) := by decide +kernel
theorem dX12_ticksOf_14 : decode cX12_ticksOf 14 = .ok (.iadd, 1) := by decide +kernel
theorem dX12_ticksOf_15 : decode cX12_ticksOf 15 = .ok (.aload_n 0, 1) := by decide +kernel
theorem dX12_ticksOf_16 : decode cX12_ticksOf 16 = .ok (.getfield 25, 3) := by decide +kernel
theorem dX12_ticksOf_19 : decode cX12_ticksOf 19 = .ok (.iload_n 3, 1) := by decide +kernel
theorem dX12_ticksOf_20 : decode cX12_ticksOf 20 = .ok (.iaload, 1) := by decide +kernel
theorem dX12_ticksOf_21 : decode cX12_ticksOf 21 = .ok (.iconst 1, 1) := by decide +kernel
theorem dX12_ticksOf_22 : decode cX12_ticksOf 22 = .ok (.if_icmp .ne 7, 3) := by decide +kernel
theorem dX12_ticksOf_25 : decode cX12_ticksOf 25 = .ok (.iconst 4, 1) := by decide +kernel
theorem dX12_ticksOf_26 : decode cX12_ticksOf 26 = .ok (.goto 4, 3) := by decide +kernel
theorem dX12_ticksOf_29 : decode cX12_ticksOf 29 = .ok (.iconst 0, 1) := by decide +kernel
theorem dX12_ticksOf_30 : decode cX12_ticksOf 30 = .ok (.iadd, 1) := by decide +kernel
theorem dX12_ticksOf_31 : decode cX12_ticksOf 31 = .ok (.istore 4, 2) := by decide +kernel
theorem dX12_ticksOf_33 : decode cX12_ticksOf 33 = .ok (.iload 4, 2) := by decide +kernel
theorem dX12_ticksOf_35 : decode cX12_ticksOf 35 = .ok (.aload_n 0, 1) := by decide +kernel
theorem dX12_ticksOf_36 : decode cX12_ticksOf 36 = .ok (.getfield 84, 3) := by decide +kernel
theorem dX12_ticksOf_39 : decode cX12_ticksOf 39 = .ok (.iload_n 2, 1) := by decide +kernel
theorem dX12_ticksOf_40 : decode cX12_ticksOf 40 = .ok (.iaload, 1) := by decide +kernel
theorem dX12_ticksOf_41 : decode cX12_ticksOf 41 = .ok (.iadd, 1) := by decide +kernel
theorem dX12_ticksOf_42 : decode cX12_ticksOf 42 = .ok (.iconst 1, 1) := by decide +kernel
theorem dX12_ticksOf_43 : decode cX12_ticksOf 43 = .ok (.isub, 1) := by decide +kernel
theorem dX12_ticksOf_44 : decode cX12_ticksOf 44 = .ok (.aload_n 0, 1) := by decide +kernel
theorem dX12_ticksOf_45 : decode cX12_ticksOf 45 = .ok (.getfield 84, 3) := by decide +kernel
theorem dX12_ticksOf_48 : decode cX12_ticksOf 48 = .ok (.iload_n 2, 1) := by decide +kernel
theorem dX12_ticksOf_49 : decode cX12_ticksOf 49 = .ok (.iaload, 1) := by decide +kernel
theorem dX12_ticksOf_50 : decode cX12_ticksOf 50 = .ok (.idiv, 1) := by decide +kernel
theorem dX12_ticksOf_51 : decode cX12_ticksOf 51 = .ok (.istore 5, 2) := by decide +kernel
theorem dX12_ticksOf_53 : decode cX12_ticksOf 53 = .ok (.iload 5, 2) := by decide +kernel
theorem dX12_ticksOf_55 : decode cX12_ticksOf 55 = .ok (.aload_n 0, 1) := by decide +kernel
theorem dX12_ticksOf_56 : decode cX12_ticksOf 56 = .ok (.getfield 102, 3) := by decide +kernel
theorem dX12_ticksOf_59 : decode cX12_ticksOf 59 = .ok (.iload_n 2, 1) := by decide +kernel
theorem dX12_ticksOf_60 : decode cX12_ticksOf 60 = .ok (.iaload, 1) := by decide +kernel
theorem dX12_ticksOf_61 : decode cX12_ticksOf 61 = .ok (.aload_n 0, 1) := by decide +kernel
theorem dX12_ticksOf_62 : decode cX12_ticksOf 62 = .ok (.getfield 28, 3) := by decide +kernel
theorem dX12_ticksOf_65 : decode cX12_ticksOf 65 = .ok (.iload_n 3, 1) := by decide +kernel
theorem dX12_ticksOf_66 : decode cX12_ticksOf 66 = .ok (.iaload, 1) := by decide +kernel
theorem dX12_ticksOf_67 : decode cX12_ticksOf 67 = .ok (.if_icmp .ne 7, 3) := by decide +kernel
theorem dX12_ticksOf_70 : decode cX12_ticksOf 70 = .ok (.iconst 2, 1) := by decide +kernel
theorem dX12_ticksOf_71 : decode cX12_ticksOf 71 = .ok (.goto 4, 3) := by decide +kernel
theorem dX12_ticksOf_74 : decode cX12_ticksOf 74 = .ok (.iconst 0, 1) := by decide +kernel
theorem dX12_ticksOf_75 : decode cX12_ticksOf 75 = .ok (.isub, 1) := by decide +kernel
theorem dX12_ticksOf_76 : decode cX12_ticksOf 76 = .ok (.istore 5, 2) := by decide +kernel
theorem dX12_ticksOf_78 : decode cX12_ticksOf 78 = .ok (.iload 5, 2) := by decide +kernel
theorem dX12_ticksOf_80 : decode cX12_ticksOf 80 = .ok (.iconst 1, 1) := by decide +kernel
theorem dX12_ticksOf_81 : decode cX12_ticksOf 81 = .ok (.if_icmp .ge 7, 3) := by decide +kernel
theorem dX12_ticksOf_84 : decode cX12_ticksOf 84 = .ok (.iconst 1, 1) := by decide +kernel
theorem dX12_ticksOf_85 : decode cX12_ticksOf 85 = .ok (.goto 5, 3) := by decide +kernel
theorem dX12_ticksOf_88 : decode cX12_ticksOf 88 = .ok (.iload 5, 2) := by decide +kernel
theorem dX12_ticksOf_90 : decode cX12_ticksOf 90 = .ok (.ireturn, 1) := by decide +kernel
theorem dX12_begins_0 : decode cX12_begins 0 = .ok (.aload_n 0, 1) := by decide +kernel
theorem dX12_begins_1 : decode cX12_begins 1 = .ok (.getfield 87, 3) := by decide +kernel
theorem dX12_begins_4 : decode cX12_begins 4 = .ok (.iload_n 2, 1) := by decide +kernel
theorem dX12_begins_5 : decode cX12_begins 5 = .ok (.iload_n 1, 1) := by decide +kernel
theorem dX12_begins_6 : decode cX12_begins 6 = .ok (.iastore, 1) := by decide +kernel
theorem dX12_begins_7 : decode cX12_begins 7 = .ok (.aload_n 0, 1) := by decide +kernel
theorem dX12_begins_8 : decode cX12_begins 8 = .ok (.getfield 93, 3) := by decide +kernel
theorem dX12_begins_11 : decode cX12_begins 11 = .ok (.iload_n 2, 1) := by decide +kernel
theorem dX12_begins_12 : decode cX12_begins 12 = .ok (.aload_n 0, 1) := by decide +kernel
theorem dX12_begins_13 : decode cX12_begins 13 = .ok (.iload_n 1, 1) := by decide +kernel
theorem dX12_begins_14 : decode cX12_begins 14 = .ok (.iload_n 2, 1) := by decide +kernel
theorem dX12_begins_15 : decode cX12_begins 15 = .ok (.invokevirtual 255, 3) := by decide +kernel
theorem dX12_begins_18 : decode cX12_begins 18 = .ok (.iastore, 1) := by decide +kernel
theorem dX12_begins_19 : decode cX12_begins 19 = .ok (.aload_n 0, 1) := by decide +kernel
theorem dX12_begins_20 : decode cX12_begins 20 = .ok (.getfield 90, 3) := by decide +kernel
theorem dX12_begins_23 : decode cX12_begins 23 = .ok (.iload_n 2, 1) := by decide +kernel
theorem dX12_begins_24 : decode cX12_begins 24 = .ok (.aload_n 0, 1) := by decide +kernel
theorem dX12_begins_25 : decode cX12_begins 25 = .ok (.getfield 93, 3) := by decide +kernel
theorem dX12_begins_28 : decode cX12_begins 28 = .ok (.iload_n 2, 1) := by decide +kernel
theorem dX12_begins_29 : decode cX12_begins 29 = .ok (.iaload, 1) := by decide +kernel
theorem dX12_begins_30 : decode cX12_begins 30 = .ok (.iastore, 1) := by decide +kernel
theorem dX12_begins_31 : decode cX12_begins 31 = .ok (.aload_n 0, 1) := by decide +kernel
theorem dX12_begins_32 : decode cX12_begins 32 = .ok (.getfield 96, 3) := by decide +kernel
theorem dX12_begins_35 : decode cX12_begins 35 = .ok (.iload_n 2, 1) := by decide +kernel
theorem dX12_begins_36 : decode cX12_begins 36 = .ok (.aload_n 0, 1) := by decide +kernel
theorem dX12_begins_37 : decode cX12_begins 37 = .ok (.iload_n 1, 1) := by decide +kernel
theorem dX12_begins_38 : decode cX12_begins 38 = .ok (.invokevirtual 215, 3) := by decide +kernel
theorem dX12_begins_41 : decode cX12_begins 41 = .ok (.iastore, 1) := by decide +kernel
theorem dX12_begins_42 : decode cX12_begins 42 = .ok (.aload_n 0, 1) := by decide +kernel
theorem dX12_begins_43 : decode cX12_begins 43 = .ok (.iload_n 1, 1) := by decide +kernel
theorem dX12_begins_44 : decode cX12_begins 44 = .ok (.iconst 4, 1) := by decide +kernel
theorem dX12_begins_45 : decode cX12_begins 45 = .ok (.idiv, 1) := by decide +kernel
theorem dX12_begins_46 : decode cX12_begins 46 = .ok (.aload_n 0, 1) := by decide +kernel
theorem dX12_begins_47 : decode cX12_begins 47 = .ok (.getfield 96, 3) := by decide +kernel
theorem dX12_begins_50 : decode cX12_begins 50 = .ok (.iload_n 2, 1) := by decide +kernel
theorem dX12_begins_51 : decode cX12_begins 51 = .ok (.iaload, 1) := by decide +kernel
theorem dX12_begins_52 : decode cX12_begins 52 = .ok (.invokevirtual 197, 3) := by decide +kernel
theorem dX12_begins_55 : decode cX12_begins 55 = .ok (.istore_n 3, 1) := by decide +kernel
theorem dX12_begins_56 : decode cX12_begins 56 = .ok (.aload_n 0, 1) := by decide +kernel
theorem dX12_begins_57 : decode cX12_begins 57 = .ok (.getfield 99, 3) := by decide +kernel
theorem dX12_begins_60 : decode cX12_begins 60 = .ok (.iload_n 2, 1) := by decide +kernel
theorem dX12_begins_61 : decode cX12_begins 61 = .ok (.iload_n 3, 1) := by decide +kernel
theorem dX12_begins_62 : decode cX12_begins 62 = .ok (.iconst (-1), 1) := by decide +kernel
theorem dX12_begins_63 : decode cX12_begins 63 = .ok (.if_icmp .ne 7, 3) := by decide +kernel
theorem dX12_begins_66 : decode cX12_begins 66 = .ok (.iconst (-1), 1) := by decide +kernel
theorem dX12_begins_67 : decode cX12_begins 67 = .ok (.goto 9, 3) := by decide +kernel
theorem dX12_begins_70 : decode cX12_begins 70 = .ok (.aload_n 0, 1) := by decide +kernel
theorem dX12_begins_71 : decode cX12_begins 71 = .ok (.getfield 7, 3) := by decide +kernel
theorem dX12_begins_74 : decode cX12_begins 74 = .ok (.iload_n 3, 1) := by decide +kernel
theorem dX12_begins_75 : decode cX12_begins 75 = .ok (.iaload, 1) := by decide +kernel
theorem dX12_begins_76 : decode cX12_begins 76 = .ok (.iastore, 1) := by decide +kernel
theorem dX12_begins_77 : decode cX12_begins 77 = .ok (.aload_n 0, 1) := by decide +kernel
theorem dX12_begins_78 : decode cX12_begins 78 = .ok (.getfield 105, 3) := by decide +kernel
theorem dX12_begins_81 : decode cX12_begins 81 = .ok (.iload_n 1, 1) := by decide +kernel
theorem dX12_begins_82 : decode cX12_begins 82 = .ok (.iconst 2, 1) := by decide +kernel
theorem dX12_begins_83 : decode cX12_begins 83 = .ok (.iastore, 1) := by decide +kernel
theorem dX12_begins_84 : decode cX12_begins 84 = .ok (.aload_n 0, 1) := by decide +kernel
theorem dX12_begins_85 : decode cX12_begins 85 = .ok (.getfield 129, 3) := by decide +kernel
theorem dX12_begins_88 : decode cX12_begins 88 = .ok (.iconst 0, 1) := by decide +kernel
theorem dX12_begins_89 : decode cX12_begins 89 = .ok (.dup2, 1) := by decide +kernel
theorem dX12_begins_90 : decode cX12_begins 90 = .ok (.iaload, 1) := by decide +kernel
theorem dX12_begins_91 : decode cX12_begins 91 = .ok (.iconst 1, 1) := by decide +kernel
theorem dX12_begins_92 : decode cX12_begins 92 = .ok (.iadd, 1) := by decide +kernel
theorem dX12_begins_93 : decode cX12_begins 93 = .ok (.iastore, 1) := by decide +kernel
theorem dX12_begins_94 : decode cX12_begins 94 = .ok (.return_, 1) := by decide +kernel
theorem dX12_next_0 : decode cX12_next 0 = .ok (.iconst (-1), 1) := by decide +kernel
theorem dX12_next_1 : decode cX12_next 1 = .ok (.istore_n 1, 1) := by decide +kernel
theorem dX12_next_2 : decode cX12_next 2 = .ok (.iconst (-1), 1) := by decide +kernel
theorem dX12_next_3 : decode cX12_next 3 = .ok (.istore_n 2, 1) := by decide +kernel
theorem dX12_next_4 : decode cX12_next 4 = .ok (.iconst 0, 1) := by decide +kernel
theorem dX12_next_5 : decode cX12_next 5 = .ok (.istore_n 3, 1) := by decide +kernel
theorem dX12_next_6 : decode cX12_next 6 = .ok (.iload_n 3, 1) := by decide +kernel
theorem dX12_next_7 : decode cX12_next 7 = .ok (.aload_n 0, 1) := by decide +kernel
theorem dX12_next_8 : decode cX12_next 8 = .ok (.getfield 154, 3) := by decide +kernel
theorem dX12_next_11 : decode cX12_next 11 = .ok (.if_icmp .ge 74, 3) := by decide +kernel
theorem dX12_next_14 : decode cX12_next 14 = .ok (.iconst 0, 1) := by decide +kernel
theorem dX12_next_15 : decode cX12_next 15 = .ok (.istore 4, 2) := by decide +kernel
theorem dX12_next_17 : decode cX12_next 17 = .ok (.iload 4, 2) := by decide +kernel
theorem dX12_next_19 : decode cX12_next 19 = .ok (.aload_n 0, 1) := by decide +kernel
theorem dX12_next_20 : decode cX12_next 20 = .ok (.getfield 34, 3) := by decide +kernel
theorem dX12_next_23 : decode cX12_next 23 = .ok (.iload_n 3, 1) := by decide +kernel
theorem dX12_next_24 : decode cX12_next 24 = .ok (.iaload, 1) := by decide +kernel
theorem dX12_next_25 : decode cX12_next 25 = .ok (.if_icmp .ge 54, 3) := by decide +kernel
theorem dX12_next_28 : decode cX12_next 28 = .ok (.aload_n 0, 1) := by decide +kernel
theorem dX12_next_29 : decode cX12_next 29 = .ok (.iload_n 3, 1) := by decide +kernel
theorem dX12_next_30 : decode cX12_next 30 = .ok (.invokevirtual 240, 3) := by decide +kernel
theorem dX12_next_33 : decode cX12_next 33 = .ok (.ifCond .eq 46, 3) := by decide +kernel
theorem dX12_next_36 : decode cX12_next 36 = .ok (.aload_n 0, 1) := by decide +kernel
theorem dX12_next_37 : decode cX12_next 37 = .ok (.getfield 105, 3) := by decide +kernel
theorem dX12_next_40 : decode cX12_next 40 = .ok (.iconst 4, 1) := by decide +kernel
theorem dX12_next_41 : decode cX12_next 41 = .ok (.iload_n 3, 1) := by decide +kernel
theorem dX12_next_42 : decode cX12_next 42 = .ok (.imul, 1) := by decide +kernel
theorem dX12_next_43 : decode cX12_next 43 = .ok (.iload 4, 2) := by decide +kernel
theorem dX12_next_45 : decode cX12_next 45 = .ok (.iadd, 1) := by decide +kernel
theorem dX12_next_46 : decode cX12_next 46 = .ok (.iaload, 1) := by decide +kernel
theorem dX12_next_47 : decode cX12_next 47 = .ok (.iconst 1, 1) := by decide +kernel
theorem dX12_next_48 : decode cX12_next 48 = .ok (.if_icmp .ne 25, 3) := by decide +kernel
theorem dX12_next_51 : decode cX12_next 51 = .ok (.aload_n 0, 1) := by decide +kernel
theorem dX12_next_52 : decode cX12_next 52 = .ok (.iload_n 3, 1) := by decide +kernel
theorem dX12_next_53 : decode cX12_next 53 = .ok (.invokevirtual 258, 3) := by decide +kernel
theorem dX12_next_56 : decode cX12_next 56 = .ok (.iload_n 2, 1) := by decide +kernel
theorem dX12_next_57 : decode cX12_next 57 = .ok (.if_icmp .le 16, 3) := by decide +kernel
theorem dX12_next_60 : decode cX12_next 60 = .ok (.iconst 4, 1) := by decide +kernel
theorem dX12_next_61 : decode cX12_next 61 = .ok (.iload_n 3, 1) := by decide +kernel
theorem dX12_next_62 : decode cX12_next 62 = .ok (.imul, 1) := by decide +kernel
theorem dX12_next_63 : decode cX12_next 63 = .ok (.iload 4, 2) := by decide +kernel
theorem dX12_next_65 : decode cX12_next 65 = .ok (.iadd, 1) := by decide +kernel
theorem dX12_next_66 : decode cX12_next 66 = .ok (.istore_n 1, 1) := by decide +kernel
theorem dX12_next_67 : decode cX12_next 67 = .ok (.aload_n 0, 1) := by decide +kernel
theorem dX12_next_68 : decode cX12_next 68 = .ok (.iload_n 3, 1) := by decide +kernel
theorem dX12_next_69 : decode cX12_next 69 = .ok (.invokevirtual 258, 3) := by decide +kernel
theorem dX12_next_72 : decode cX12_next 72 = .ok (.istore_n 2, 1) := by decide +kernel
theorem dX12_next_73 : decode cX12_next 73 = .ok (.iinc 4 1, 3) := by decide +kernel
theorem dX12_next_76 : decode cX12_next 76 = .ok (.goto (-59), 3) := by decide +kernel
theorem dX12_next_79 : decode cX12_next 79 = .ok (.iinc 3 1, 3) := by decide +kernel
theorem dX12_next_82 : decode cX12_next 82 = .ok (.goto (-76), 3) := by decide +kernel
theorem dX12_next_85 : decode cX12_next 85 = .ok (.iload_n 1, 1) := by decide +kernel
theorem dX12_next_86 : decode cX12_next 86 = .ok (.ireturn, 1) := by decide +kernel
theorem dX12_idle_0 : decode cX12_idle 0 = .ok (.iconst (-1), 1) := by decide +kernel
theorem dX12_idle_1 : decode cX12_idle 1 = .ok (.istore_n 1, 1) := by decide +kernel
theorem dX12_idle_2 : decode cX12_idle 2 = .ok (.iconst 0, 1) := by decide +kernel
theorem dX12_idle_3 : decode cX12_idle 3 = .ok (.istore_n 2, 1) := by decide +kernel
theorem dX12_idle_4 : decode cX12_idle 4 = .ok (.iload_n 2, 1) := by decide +kernel
theorem dX12_idle_5 : decode cX12_idle 5 = .ok (.iconst 4, 1) := by decide +kernel
theorem dX12_idle_6 : decode cX12_idle 6 = .ok (.if_icmp .ge 54, 3) := by decide +kernel
theorem dX12_idle_9 : decode cX12_idle 9 = .ok (.aload_n 0, 1) := by decide +kernel
theorem dX12_idle_10 : decode cX12_idle 10 = .ok (.getfield 87, 3) := by decide +kernel
theorem dX12_idle_13 : decode cX12_idle 13 = .ok (.iload_n 2, 1) := by decide +kernel
theorem dX12_idle_14 : decode cX12_idle 14 = .ok (.iaload, 1) := by decide +kernel
theorem dX12_idle_15 : decode cX12_idle 15 = .ok (.iconst (-1), 1) := by decide +kernel
theorem dX12_idle_16 : decode cX12_idle 16 = .ok (.if_icmp .ne 36, 3) := by decide +kernel
theorem dX12_idle_19 : decode cX12_idle 19 = .ok (.aload_n 0, 1) := by decide +kernel
theorem dX12_idle_20 : decode cX12_idle 20 = .ok (.getfield 84, 3) := by decide +kernel
theorem dX12_idle_23 : decode cX12_idle 23 = .ok (.iload_n 2, 1) := by decide +kernel
theorem dX12_idle_24 : decode cX12_idle 24 = .ok (.iaload, 1) := by decide +kernel
theorem dX12_idle_25 : decode cX12_idle 25 = .ok (.ifCond .le 27, 3) := by decide +kernel
theorem dX12_idle_28 : decode cX12_idle 28 = .ok (.iload_n 1, 1) := by decide +kernel
theorem dX12_idle_29 : decode cX12_idle 29 = .ok (.iconst (-1), 1) := by decide +kernel
theorem dX12_idle_30 : decode cX12_idle 30 = .ok (.if_icmp .eq 18, 3) := by decide +kernel
theorem dX12_idle_33 : decode cX12_idle 33 = .ok (.aload_n 0, 1) := by decide +kernel
theorem dX12_idle_34 : decode cX12_idle 34 = .ok (.getfield 84, 3) := by decide +kernel
theorem dX12_idle_37 : decode cX12_idle 37 = .ok (.iload_n 2, 1) := by decide +kernel
theorem dX12_idle_38 : decode cX12_idle 38 = .ok (.iaload, 1) := by decide +kernel
theorem dX12_idle_39 : decode cX12_idle 39 = .ok (.aload_n 0, 1) := by decide +kernel
theorem dX12_idle_40 : decode cX12_idle 40 = .ok (.getfield 84, 3) := by decide +kernel
theorem dX12_idle_43 : decode cX12_idle 43 = .ok (.iload_n 1, 1) := by decide +kernel
theorem dX12_idle_44 : decode cX12_idle 44 = .ok (.iaload, 1) := by decide +kernel
theorem dX12_idle_45 : decode cX12_idle 45 = .ok (.if_icmp .le 7, 3) := by decide +kernel
theorem dX12_idle_48 : decode cX12_idle 48 = .ok (.iload_n 2, 1) := by decide +kernel
theorem dX12_idle_49 : decode cX12_idle 49 = .ok (.goto 4, 3) := by decide +kernel
theorem dX12_idle_52 : decode cX12_idle 52 = .ok (.iload_n 1, 1) := by decide +kernel
theorem dX12_idle_53 : decode cX12_idle 53 = .ok (.istore_n 1, 1) := by decide +kernel
theorem dX12_idle_54 : decode cX12_idle 54 = .ok (.iinc 2 1, 3) := by decide +kernel
theorem dX12_idle_57 : decode cX12_idle 57 = .ok (.goto (-53), 3) := by decide +kernel
theorem dX12_idle_60 : decode cX12_idle 60 = .ok (.iload_n 1, 1) := by decide +kernel
theorem dX12_idle_61 : decode cX12_idle 61 = .ok (.ireturn, 1) := by decide +kernel
theorem dX12_ends_0 : decode cX12_ends 0 = .ok (.aload_n 0, 1) := by decide +kernel
theorem dX12_ends_1 : decode cX12_ends 1 = .ok (.getfield 87, 3) := by decide +kernel
theorem dX12_ends_4 : decode cX12_ends 4 = .ok (.iload_n 1, 1) := by decide +kernel
theorem dX12_ends_5 : decode cX12_ends 5 = .ok (.iaload, 1) := by decide +kernel
theorem dX12_ends_6 : decode cX12_ends 6 = .ok (.istore_n 2, 1) := by decide +kernel
theorem dX12_ends_7 : decode cX12_ends 7 = .ok (.iload_n 2, 1) := by decide +kernel
theorem dX12_ends_8 : decode cX12_ends 8 = .ok (.iconst 4, 1) := by decide +kernel
theorem dX12_ends_9 : decode cX12_ends 9 = .ok (.idiv, 1) := by decide +kernel
theorem dX12_ends_10 : decode cX12_ends 10 = .ok (.istore_n 3, 1) := by decide +kernel
theorem dX12_ends_11 : decode cX12_ends 11 = .ok (.aload_n 0, 1) := by decide +kernel
theorem dX12_ends_12 : decode cX12_ends 12 = .ok (.getfield 87, 3) := by decide +kernel
theorem dX12_ends_15 : decode cX12_ends 15 = .ok (.iload_n 1, 1) := by decide +kernel
theorem dX12_ends_16 : decode cX12_ends 16 = .ok (.iconst (-1), 1) := by decide +kernel
theorem dX12_ends_17 : decode cX12_ends 17 = .ok (.iastore, 1) := by decide +kernel
theorem dX12_ends_18 : decode cX12_ends 18 = .ok (.aload_n 0, 1) := by decide +kernel
theorem dX12_ends_19 : decode cX12_ends 19 = .ok (.getfield 102, 3) := by decide +kernel
theorem dX12_ends_22 : decode cX12_ends 22 = .ok (.iload_n 1, 1) := by decide +kernel
theorem dX12_ends_23 : decode cX12_ends 23 = .ok (.aload_n 0, 1) := by decide +kernel
theorem dX12_ends_24 : decode cX12_ends 24 = .ok (.getfield 28, 3) := by decide +kernel
theorem dX12_ends_27 : decode cX12_ends 27 = .ok (.iload_n 3, 1) := by decide +kernel
theorem dX12_ends_28 : decode cX12_ends 28 = .ok (.iaload, 1) := by decide +kernel
theorem dX12_ends_29 : decode cX12_ends 29 = .ok (.iastore, 1) := by decide +kernel
theorem dX12_ends_30 : decode cX12_ends 30 = .ok (.aload_n 0, 1) := by decide +kernel
theorem dX12_ends_31 : decode cX12_ends 31 = .ok (.iload_n 2, 1) := by decide +kernel
theorem dX12_ends_32 : decode cX12_ends 32 = .ok (.invokevirtual 225, 3) := by decide +kernel
theorem dX12_ends_35 : decode cX12_ends 35 = .ok (.istore 4, 2) := by decide +kernel
theorem dX12_ends_37 : decode cX12_ends 37 = .ok (.iload 4, 2) := by decide +kernel
theorem dX12_ends_39 : decode cX12_ends 39 = .ok (.iconst (-1), 1) := by decide +kernel
theorem dX12_ends_40 : decode cX12_ends 40 = .ok (.if_icmp .eq 19, 3) := by decide +kernel
theorem dX12_ends_43 : decode cX12_ends 43 = .ok (.aload_n 0, 1) := by decide +kernel
theorem dX12_ends_44 : decode cX12_ends 44 = .ok (.getfield 87, 3) := by decide +kernel
