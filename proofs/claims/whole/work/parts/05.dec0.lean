theorem d_Q_init_0 : decode prog_1_method_1_code 0 = .ok (.aload_n 0, 1) := by decide +kernel
theorem d_Q_init_1 : decode prog_1_method_1_code 1 = .ok (.invokespecial 3, 3) := by decide +kernel
theorem d_Q_init_4 : decode prog_1_method_1_code 4 = .ok (.aload_n 0, 1) := by decide +kernel
theorem d_Q_init_5 : decode prog_1_method_1_code 5 = .ok (.bipush 8, 2) := by decide +kernel
theorem d_Q_init_7 : decode prog_1_method_1_code 7 = .ok (.anewarray 9, 3) := by decide +kernel
theorem d_Q_init_10 : decode prog_1_method_1_code 10 = .ok (.putfield 11, 3) := by decide +kernel
theorem d_Q_init_13 : decode prog_1_method_1_code 13 = .ok (.aload_n 0, 1) := by decide +kernel
theorem d_Q_init_14 : decode prog_1_method_1_code 14 = .ok (.new 15, 3) := by decide +kernel
theorem d_Q_init_17 : decode prog_1_method_1_code 17 = .ok (.dup, 1) := by decide +kernel
theorem d_Q_init_18 : decode prog_1_method_1_code 18 = .ok (.invokespecial 17, 3) := by decide +kernel
theorem d_Q_init_21 : decode prog_1_method_1_code 21 = .ok (.putfield 18, 3) := by decide +kernel
theorem d_Q_init_24 : decode prog_1_method_1_code 24 = .ok (.aload_n 0, 1) := by decide +kernel
theorem d_Q_init_25 : decode prog_1_method_1_code 25 = .ok (.new 22, 3) := by decide +kernel
theorem d_Q_init_28 : decode prog_1_method_1_code 28 = .ok (.dup, 1) := by decide +kernel
theorem d_Q_init_29 : decode prog_1_method_1_code 29 = .ok (.invokespecial 24, 3) := by decide +kernel
theorem d_Q_init_32 : decode prog_1_method_1_code 32 = .ok (.putfield 25, 3) := by decide +kernel
theorem d_Q_init_35 : decode prog_1_method_1_code 35 = .ok (.aload_n 0, 1) := by decide +kernel
theorem d_Q_init_36 : decode prog_1_method_1_code 36 = .ok (.new 22, 3) := by decide +kernel
theorem d_Q_init_39 : decode prog_1_method_1_code 39 = .ok (.dup, 1) := by decide +kernel
theorem d_Q_init_40 : decode prog_1_method_1_code 40 = .ok (.invokespecial 24, 3) := by decide +kernel
theorem d_Q_init_43 : decode prog_1_method_1_code 43 = .ok (.putfield 29, 3) := by decide +kernel
theorem d_Q_init_46 : decode prog_1_method_1_code 46 = .ok (.aload_n 0, 1) := by decide +kernel
theorem d_Q_init_47 : decode prog_1_method_1_code 47 = .ok (.iconst 0, 1) := by decide +kernel
theorem d_Q_init_48 : decode prog_1_method_1_code 48 = .ok (.putfield 32, 3) := by decide +kernel
theorem d_Q_init_51 : decode prog_1_method_1_code 51 = .ok (.iload_n 1, 1) := by decide +kernel
theorem d_Q_init_52 : decode prog_1_method_1_code 52 = .ok (.bipush 8, 2) := by decide +kernel
theorem d_Q_init_54 : decode prog_1_method_1_code 54 = .ok (.invokestatic 36, 3) := by decide +kernel
theorem d_Q_init_57 : decode prog_1_method_1_code 57 = .ok (.istore 4, 2) := by decide +kernel
theorem d_Q_init_59 : decode prog_1_method_1_code 59 = .ok (.iload_n 2, 1) := by decide +kernel
theorem d_Q_init_60 : decode prog_1_method_1_code 60 = .ok (.iload 4, 2) := by decide +kernel
theorem d_Q_init_62 : decode prog_1_method_1_code 62 = .ok (.invokestatic 36, 3) := by decide +kernel
theorem d_Q_init_65 : decode prog_1_method_1_code 65 = .ok (.istore 5, 2) := by decide +kernel
theorem d_Q_init_67 : decode prog_1_method_1_code 67 = .ok (.iload_n 3, 1) := by decide +kernel
theorem d_Q_init_68 : decode prog_1_method_1_code 68 = .ok (.iload 4, 2) := by decide +kernel
theorem d_Q_init_70 : decode prog_1_method_1_code 70 = .ok (.invokestatic 36, 3) := by decide +kernel
theorem d_Q_init_73 : decode prog_1_method_1_code 73 = .ok (.iload 4, 2) := by decide +kernel
theorem d_Q_init_75 : decode prog_1_method_1_code 75 = .ok (.iconst 1, 1) := by decide +kernel
theorem d_Q_init_76 : decode prog_1_method_1_code 76 = .ok (.iadd, 1) := by decide +kernel
theorem d_Q_init_77 : decode prog_1_method_1_code 77 = .ok (.iload 5, 2) := by decide +kernel
theorem d_Q_init_79 : decode prog_1_method_1_code 79 = .ok (.isub, 1) := by decide +kernel
theorem d_Q_init_80 : decode prog_1_method_1_code 80 = .ok (.invokestatic 40, 3) := by decide +kernel
theorem d_Q_init_83 : decode prog_1_method_1_code 83 = .ok (.istore 6, 2) := by decide +kernel
theorem d_Q_init_85 : decode prog_1_method_1_code 85 = .ok (.iconst 1, 1) := by decide +kernel
theorem d_Q_init_86 : decode prog_1_method_1_code 86 = .ok (.iload 4, 2) := by decide +kernel
theorem d_Q_init_88 : decode prog_1_method_1_code 88 = .ok (.ishl, 1) := by decide +kernel
theorem d_Q_init_89 : decode prog_1_method_1_code 89 = .ok (.iconst 1, 1) := by decide +kernel
theorem d_Q_init_90 : decode prog_1_method_1_code 90 = .ok (.isub, 1) := by decide +kernel
theorem d_Q_init_91 : decode prog_1_method_1_code 91 = .ok (.iload 5, 2) := by decide +kernel
theorem d_Q_init_93 : decode prog_1_method_1_code 93 = .ok (.iload 6, 2) := by decide +kernel
theorem d_Q_init_95 : decode prog_1_method_1_code 95 = .ok (.invokestatic 45, 3) := by decide +kernel
theorem d_Q_init_98 : decode prog_1_method_1_code 98 = .ok (.istore 7, 2) := by decide +kernel
theorem d_Q_init_100 : decode prog_1_method_1_code 100 = .ok (.iconst 0, 1) := by decide +kernel
theorem d_Q_init_101 : decode prog_1_method_1_code 101 = .ok (.istore 8, 2) := by decide +kernel
theorem d_Q_init_103 : decode prog_1_method_1_code 103 = .ok (.iload 8, 2) := by decide +kernel
theorem d_Q_init_105 : decode prog_1_method_1_code 105 = .ok (.bipush 8, 2) := by decide +kernel
theorem d_Q_init_107 : decode prog_1_method_1_code 107 = .ok (.if_icmp .ge 60, 3) := by decide +kernel
theorem d_Q_init_110 : decode prog_1_method_1_code 110 = .ok (.aload_n 0, 1) := by decide +kernel
theorem d_Q_init_111 : decode prog_1_method_1_code 111 = .ok (.getfield 11, 3) := by decide +kernel
theorem d_Q_init_114 : decode prog_1_method_1_code 114 = .ok (.iload 8, 2) := by decide +kernel
theorem d_Q_init_116 : decode prog_1_method_1_code 116 = .ok (.new 9, 3) := by decide +kernel
theorem d_Q_init_119 : decode prog_1_method_1_code 119 = .ok (.dup, 1) := by decide +kernel
theorem d_Q_init_120 : decode prog_1_method_1_code 120 = .ok (.iload 8, 2) := by decide +kernel
theorem d_Q_init_122 : decode prog_1_method_1_code 122 = .ok (.invokespecial 49, 3) := by decide +kernel
theorem d_Q_init_125 : decode prog_1_method_1_code 125 = .ok (.aastore, 1) := by decide +kernel
theorem d_Q_init_126 : decode prog_1_method_1_code 126 = .ok (.iload 8, 2) := by decide +kernel
theorem d_Q_init_128 : decode prog_1_method_1_code 128 = .ok (.iload 4, 2) := by decide +kernel
theorem d_Q_init_130 : decode prog_1_method_1_code 130 = .ok (.if_icmp .ge 31, 3) := by decide +kernel
theorem d_Q_init_133 : decode prog_1_method_1_code 133 = .ok (.aload_n 0, 1) := by decide +kernel
theorem d_Q_init_134 : decode prog_1_method_1_code 134 = .ok (.getfield 11, 3) := by decide +kernel
theorem d_Q_init_137 : decode prog_1_method_1_code 137 = .ok (.iload 8, 2) := by decide +kernel
theorem d_Q_init_139 : decode prog_1_method_1_code 139 = .ok (.aaload, 1) := by decide +kernel
theorem d_Q_init_140 : decode prog_1_method_1_code 140 = .ok (.iconst 1, 1) := by decide +kernel
theorem d_Q_init_141 : decode prog_1_method_1_code 141 = .ok (.putfield 52, 3) := by decide +kernel
theorem d_Q_init_144 : decode prog_1_method_1_code 144 = .ok (.aload_n 0, 1) := by decide +kernel
theorem d_Q_init_145 : decode prog_1_method_1_code 145 = .ok (.getfield 11, 3) := by decide +kernel
theorem d_Q_init_148 : decode prog_1_method_1_code 148 = .ok (.iload 8, 2) := by decide +kernel
theorem d_Q_init_150 : decode prog_1_method_1_code 150 = .ok (.aaload, 1) := by decide +kernel
theorem d_Q_init_151 : decode prog_1_method_1_code 151 = .ok (.getfield 55, 3) := by decide +kernel
theorem d_Q_init_154 : decode prog_1_method_1_code 154 = .ok (.iconst 0, 1) := by decide +kernel
theorem d_Q_init_155 : decode prog_1_method_1_code 155 = .ok (.iconst 1, 1) := by decide +kernel
theorem d_Q_init_156 : decode prog_1_method_1_code 156 = .ok (.iload 7, 2) := by decide +kernel
theorem d_Q_init_158 : decode prog_1_method_1_code 158 = .ok (.invokevirtual 59, 3) := by decide +kernel
theorem d_Q_init_161 : decode prog_1_method_1_code 161 = .ok (.iinc 8 1, 3) := by decide +kernel
theorem d_Q_init_164 : decode prog_1_method_1_code 164 = .ok (.goto (-61), 3) := by decide +kernel
theorem d_Q_init_167 : decode prog_1_method_1_code 167 = .ok (.return_, 1) := by decide +kernel
theorem d_Q_read_0 : decode prog_1_method_2_code 0 = .ok (.iload_n 2, 1) := by decide +kernel
theorem d_Q_read_1 : decode prog_1_method_2_code 1 = .ok (.invokestatic 65, 3) := by decide +kernel
theorem d_Q_read_4 : decode prog_1_method_2_code 4 = .ok (.ifCond .ne 5, 3) := by decide +kernel
theorem d_Q_read_7 : decode prog_1_method_2_code 7 = .ok (.iconst (-1), 1) := by decide +kernel
theorem d_Q_read_8 : decode prog_1_method_2_code 8 = .ok (.ireturn, 1) := by decide +kernel
theorem d_Q_read_9 : decode prog_1_method_2_code 9 = .ok (.aload_n 0, 1) := by decide +kernel
theorem d_Q_read_10 : decode prog_1_method_2_code 10 = .ok (.iload_n 1, 1) := by decide +kernel
theorem d_Q_read_11 : decode prog_1_method_2_code 11 = .ok (.iconst 1, 1) := by decide +kernel
theorem d_Q_read_12 : decode prog_1_method_2_code 12 = .ok (.iload_n 2, 1) := by decide +kernel
theorem d_Q_read_13 : decode prog_1_method_2_code 13 = .ok (.invokevirtual 69, 3) := by decide +kernel
theorem d_Q_read_16 : decode prog_1_method_2_code 16 = .ok (.astore_n 3, 1) := by decide +kernel
theorem d_Q_read_17 : decode prog_1_method_2_code 17 = .ok (.aload_n 3, 1) := by decide +kernel
theorem d_Q_read_18 : decode prog_1_method_2_code 18 = .ok (.ifnonnull 5, 3) := by decide +kernel
theorem d_Q_read_21 : decode prog_1_method_2_code 21 = .ok (.iconst (-1), 1) := by decide +kernel
theorem d_Q_read_22 : decode prog_1_method_2_code 22 = .ok (.ireturn, 1) := by decide +kernel
theorem d_Q_read_23 : decode prog_1_method_2_code 23 = .ok (.aload_n 0, 1) := by decide +kernel
theorem d_Q_read_24 : decode prog_1_method_2_code 24 = .ok (.aload_n 3, 1) := by decide +kernel
theorem d_Q_read_25 : decode prog_1_method_2_code 25 = .ok (.invokevirtual 73, 3) := by decide +kernel
theorem d_Q_read_28 : decode prog_1_method_2_code 28 = .ok (.aload_n 0, 1) := by decide +kernel
theorem d_Q_read_29 : decode prog_1_method_2_code 29 = .ok (.aload_n 3, 1) := by decide +kernel
theorem d_Q_read_30 : decode prog_1_method_2_code 30 = .ok (.invokevirtual 77, 3) := by decide +kernel
theorem d_Q_read_33 : decode prog_1_method_2_code 33 = .ok (.aload_n 3, 1) := by decide +kernel
theorem d_Q_read_34 : decode prog_1_method_2_code 34 = .ok (.invokestatic 80, 3) := by decide +kernel
theorem d_Q_read_37 : decode prog_1_method_2_code 37 = .ok (.ireturn, 1) := by decide +kernel
theorem d_Q_write_0 : decode prog_1_method_3_code 0 = .ok (.iload_n 2, 1) := by decide +kernel
theorem d_Q_write_1 : decode prog_1_method_3_code 1 = .ok (.invokestatic 65, 3) := by decide +kernel
theorem d_Q_write_4 : decode prog_1_method_3_code 4 = .ok (.ifCond .ne 5, 3) := by decide +kernel
theorem d_Q_write_7 : decode prog_1_method_3_code 7 = .ok (.iconst (-1), 1) := by decide +kernel
theorem d_Q_write_8 : decode prog_1_method_3_code 8 = .ok (.ireturn, 1) := by decide +kernel
theorem d_Q_write_9 : decode prog_1_method_3_code 9 = .ok (.aload_n 0, 1) := by decide +kernel
theorem d_Q_write_10 : decode prog_1_method_3_code 10 = .ok (.iload_n 1, 1) := by decide +kernel
theorem d_Q_write_11 : decode prog_1_method_3_code 11 = .ok (.iconst 2, 1) := by decide +kernel
theorem d_Q_write_12 : decode prog_1_method_3_code 12 = .ok (.iload_n 2, 1) := by decide +kernel
theorem d_Q_write_13 : decode prog_1_method_3_code 13 = .ok (.invokevirtual 69, 3) := by decide +kernel
theorem d_Q_write_16 : decode prog_1_method_3_code 16 = .ok (.astore 4, 2) := by decide +kernel
theorem d_Q_write_18 : decode prog_1_method_3_code 18 = .ok (.aload 4, 2) := by decide +kernel
theorem d_Q_write_20 : decode prog_1_method_3_code 20 = .ok (.ifnonnull 5, 3) := by decide +kernel
theorem d_Q_write_23 : decode prog_1_method_3_code 23 = .ok (.iconst (-1), 1) := by decide +kernel
theorem d_Q_write_24 : decode prog_1_method_3_code 24 = .ok (.ireturn, 1) := by decide +kernel
theorem d_Q_write_25 : decode prog_1_method_3_code 25 = .ok (.aload 4, 2) := by decide +kernel
theorem d_Q_write_27 : decode prog_1_method_3_code 27 = .ok (.getfield 84, 3) := by decide +kernel
theorem d_Q_write_30 : decode prog_1_method_3_code 30 = .ok (.iload_n 3, 1) := by decide +kernel
theorem d_Q_write_31 : decode prog_1_method_3_code 31 = .ok (.putfield 88, 3) := by decide +kernel
theorem d_Q_write_34 : decode prog_1_method_3_code 34 = .ok (.aload_n 0, 1) := by decide +kernel
theorem d_Q_write_35 : decode prog_1_method_3_code 35 = .ok (.aload 4, 2) := by decide +kernel
theorem d_Q_write_37 : decode prog_1_method_3_code 37 = .ok (.invokevirtual 73, 3) := by decide +kernel
theorem d_Q_write_40 : decode prog_1_method_3_code 40 = .ok (.aload_n 0, 1) := by decide +kernel
theorem d_Q_write_41 : decode prog_1_method_3_code 41 = .ok (.aload 4, 2) := by decide +kernel
theorem d_Q_write_43 : decode prog_1_method_3_code 43 = .ok (.invokevirtual 77, 3) := by decide +kernel
theorem d_Q_write_46 : decode prog_1_method_3_code 46 = .ok (.aload 4, 2) := by decide +kernel
theorem d_Q_write_48 : decode prog_1_method_3_code 48 = .ok (.invokestatic 80, 3) := by decide +kernel
theorem d_Q_write_51 : decode prog_1_method_3_code 51 = .ok (.ireturn, 1) := by decide +kernel
theorem d_Q_propose_0 : decode prog_1_method_4_code 0 = .ok (.aload_n 0, 1) := by decide +kernel
theorem d_Q_propose_1 : decode prog_1_method_4_code 1 = .ok (.iload_n 1, 1) := by decide +kernel
theorem d_Q_propose_2 : decode prog_1_method_4_code 2 = .ok (.invokevirtual 93, 3) := by decide +kernel
theorem d_Q_propose_5 : decode prog_1_method_4_code 5 = .ok (.astore 5, 2) := by decide +kernel
theorem d_Q_propose_7 : decode prog_1_method_4_code 7 = .ok (.aload 5, 2) := by decide +kernel
theorem d_Q_propose_9 : decode prog_1_method_4_code 9 = .ok (.ifnull 13, 3) := by decide +kernel
theorem d_Q_propose_12 : decode prog_1_method_4_code 12 = .ok (.iload_n 2, 1) := by decide +kernel
theorem d_Q_propose_13 : decode prog_1_method_4_code 13 = .ok (.iload_n 3, 1) := by decide +kernel
theorem d_Q_propose_14 : decode prog_1_method_4_code 14 = .ok (.iload 4, 2) := by decide +kernel
theorem d_Q_propose_16 : decode prog_1_method_4_code 16 = .ok (.invokestatic 97, 3) := by decide +kernel
theorem d_Q_propose_19 : decode prog_1_method_4_code 19 = .ok (.ifCond .ne 5, 3) := by decide +kernel
theorem d_Q_propose_22 : decode prog_1_method_4_code 22 = .ok (.iconst (-1), 1) := by decide +kernel
theorem d_Q_propose_23 : decode prog_1_method_4_code 23 = .ok (.ireturn, 1) := by decide +kernel
theorem d_Q_propose_24 : decode prog_1_method_4_code 24 = .ok (.aload 5, 2) := by decide +kernel
theorem d_Q_propose_26 : decode prog_1_method_4_code 26 = .ok (.getfield 55, 3) := by decide +kernel
theorem d_Q_propose_29 : decode prog_1_method_4_code 29 = .ok (.iconst 1, 1) := by decide +kernel
theorem d_Q_propose_30 : decode prog_1_method_4_code 30 = .ok (.invokevirtual 101, 3) := by decide +kernel
theorem d_Q_propose_33 : decode prog_1_method_4_code 33 = .ok (.invokestatic 105, 3) := by decide +kernel
theorem d_Q_propose_36 : decode prog_1_method_4_code 36 = .ok (.iconst 1, 1) := by decide +kernel
theorem d_Q_propose_37 : decode prog_1_method_4_code 37 = .ok (.iadd, 1) := by decide +kernel
theorem d_Q_propose_38 : decode prog_1_method_4_code 38 = .ok (.istore 6, 2) := by decide +kernel
theorem d_Q_propose_40 : decode prog_1_method_4_code 40 = .ok (.iload 6, 2) := by decide +kernel
theorem d_Q_propose_42 : decode prog_1_method_4_code 42 = .ok (.bipush 16, 2) := by decide +kernel
theorem d_Q_propose_44 : decode prog_1_method_4_code 44 = .ok (.if_icmp .lt 5, 3) := by decide +kernel
theorem d_Q_propose_47 : decode prog_1_method_4_code 47 = .ok (.iconst (-1), 1) := by decide +kernel
theorem d_Q_propose_48 : decode prog_1_method_4_code 48 = .ok (.ireturn, 1) := by decide +kernel
theorem d_Q_propose_49 : decode prog_1_method_4_code 49 = .ok (.aload_n 0, 1) := by decide +kernel
theorem d_Q_propose_50 : decode prog_1_method_4_code 50 = .ok (.iload_n 1, 1) := by decide +kernel
theorem d_Q_propose_51 : decode prog_1_method_4_code 51 = .ok (.iconst 3, 1) := by decide +kernel
theorem d_Q_propose_52 : decode prog_1_method_4_code 52 = .ok (.iload 6, 2) := by decide +kernel
theorem d_Q_propose_54 : decode prog_1_method_4_code 54 = .ok (.invokevirtual 69, 3) := by decide +kernel
theorem d_Q_propose_57 : decode prog_1_method_4_code 57 = .ok (.astore 7, 2) := by decide +kernel
theorem d_Q_propose_59 : decode prog_1_method_4_code 59 = .ok (.aload 7, 2) := by decide +kernel
theorem d_Q_propose_61 : decode prog_1_method_4_code 61 = .ok (.ifnonnull 5, 3) := by decide +kernel
theorem d_Q_propose_64 : decode prog_1_method_4_code 64 = .ok (.iconst (-1), 1) := by decide +kernel
theorem d_Q_propose_65 : decode prog_1_method_4_code 65 = .ok (.ireturn, 1) := by decide +kernel
theorem d_Q_propose_66 : decode prog_1_method_4_code 66 = .ok (.aload 7, 2) := by decide +kernel
theorem d_Q_propose_68 : decode prog_1_method_4_code 68 = .ok (.getfield 84, 3) := by decide +kernel
theorem d_Q_propose_71 : decode prog_1_method_4_code 71 = .ok (.iload_n 2, 1) := by decide +kernel
theorem d_Q_propose_72 : decode prog_1_method_4_code 72 = .ok (.iload_n 3, 1) := by decide +kernel
theorem d_Q_propose_73 : decode prog_1_method_4_code 73 = .ok (.iload 4, 2) := by decide +kernel
theorem d_Q_propose_75 : decode prog_1_method_4_code 75 = .ok (.invokestatic 45, 3) := by decide +kernel
theorem d_Q_propose_78 : decode prog_1_method_4_code 78 = .ok (.putfield 108, 3) := by decide +kernel
theorem d_Q_propose_81 : decode prog_1_method_4_code 81 = .ok (.aload_n 0, 1) := by decide +kernel
theorem d_Q_propose_82 : decode prog_1_method_4_code 82 = .ok (.aload 7, 2) := by decide +kernel
theorem d_Q_propose_84 : decode prog_1_method_4_code 84 = .ok (.invokevirtual 73, 3) := by decide +kernel
theorem d_Q_propose_87 : decode prog_1_method_4_code 87 = .ok (.aload_n 0, 1) := by decide +kernel
theorem d_Q_propose_88 : decode prog_1_method_4_code 88 = .ok (.aload 7, 2) := by decide +kernel
theorem d_Q_propose_90 : decode prog_1_method_4_code 90 = .ok (.invokevirtual 77, 3) := by decide +kernel
theorem d_Q_propose_93 : decode prog_1_method_4_code 93 = .ok (.aload 7, 2) := by decide +kernel
theorem d_Q_propose_95 : decode prog_1_method_4_code 95 = .ok (.invokestatic 80, 3) := by decide +kernel
theorem d_Q_propose_98 : decode prog_1_method_4_code 98 = .ok (.ireturn, 1) := by decide +kernel
theorem d_Q_retire_0 : decode prog_1_method_5_code 0 = .ok (.aload_n 0, 1) := by decide +kernel
theorem d_Q_retire_1 : decode prog_1_method_5_code 1 = .ok (.iload_n 1, 1) := by decide +kernel
theorem d_Q_retire_2 : decode prog_1_method_5_code 2 = .ok (.invokevirtual 93, 3) := by decide +kernel
theorem d_Q_retire_5 : decode prog_1_method_5_code 5 = .ok (.astore_n 2, 1) := by decide +kernel
theorem d_Q_retire_6 : decode prog_1_method_5_code 6 = .ok (.aload_n 2, 1) := by decide +kernel
theorem d_Q_retire_7 : decode prog_1_method_5_code 7 = .ok (.ifnonnull 5, 3) := by decide +kernel
theorem d_Q_retire_10 : decode prog_1_method_5_code 10 = .ok (.iconst (-1), 1) := by decide +kernel
theorem d_Q_retire_11 : decode prog_1_method_5_code 11 = .ok (.ireturn, 1) := by decide +kernel
theorem d_Q_retire_12 : decode prog_1_method_5_code 12 = .ok (.aload_n 2, 1) := by decide +kernel
theorem d_Q_retire_13 : decode prog_1_method_5_code 13 = .ok (.getfield 55, 3) := by decide +kernel
theorem d_Q_retire_16 : decode prog_1_method_5_code 16 = .ok (.iconst 1, 1) := by decide +kernel
theorem d_Q_retire_17 : decode prog_1_method_5_code 17 = .ok (.invokevirtual 101, 3) := by decide +kernel
theorem d_Q_retire_20 : decode prog_1_method_5_code 20 = .ok (.istore_n 3, 1) := by decide +kernel
theorem d_Q_retire_21 : decode prog_1_method_5_code 21 = .ok (.iload_n 3, 1) := by decide +kernel
theorem d_Q_retire_22 : decode prog_1_method_5_code 22 = .ok (.invokestatic 111, 3) := by decide +kernel
theorem d_Q_retire_25 : decode prog_1_method_5_code 25 = .ok (.iconst 2, 1) := by decide +kernel
theorem d_Q_retire_26 : decode prog_1_method_5_code 26 = .ok (.if_icmp .ge 5, 3) := by decide +kernel
theorem d_Q_retire_29 : decode prog_1_method_5_code 29 = .ok (.iconst (-1), 1) := by decide +kernel
theorem d_Q_retire_30 : decode prog_1_method_5_code 30 = .ok (.ireturn, 1) := by decide +kernel
theorem d_Q_retire_31 : decode prog_1_method_5_code 31 = .ok (.iload_n 3, 1) := by decide +kernel
theorem d_Q_retire_32 : decode prog_1_method_5_code 32 = .ok (.invokestatic 105, 3) := by decide +kernel
theorem d_Q_retire_35 : decode prog_1_method_5_code 35 = .ok (.istore 4, 2) := by decide +kernel
theorem d_Q_retire_37 : decode prog_1_method_5_code 37 = .ok (.aload_n 0, 1) := by decide +kernel
theorem d_Q_retire_38 : decode prog_1_method_5_code 38 = .ok (.iload_n 1, 1) := by decide +kernel
theorem d_Q_retire_39 : decode prog_1_method_5_code 39 = .ok (.iconst 4, 1) := by decide +kernel
theorem d_Q_retire_40 : decode prog_1_method_5_code 40 = .ok (.iload 4, 2) := by decide +kernel
theorem d_Q_retire_42 : decode prog_1_method_5_code 42 = .ok (.invokevirtual 69, 3) := by decide +kernel
theorem d_Q_retire_45 : decode prog_1_method_5_code 45 = .ok (.astore 5, 2) := by decide +kernel
theorem d_Q_retire_47 : decode prog_1_method_5_code 47 = .ok (.aload 5, 2) := by decide +kernel
theorem d_Q_retire_49 : decode prog_1_method_5_code 49 = .ok (.ifnonnull 5, 3) := by decide +kernel
theorem d_Q_retire_52 : decode prog_1_method_5_code 52 = .ok (.iconst (-1), 1) := by decide +kernel
theorem d_Q_retire_53 : decode prog_1_method_5_code 53 = .ok (.ireturn, 1) := by decide +kernel
theorem d_Q_retire_54 : decode prog_1_method_5_code 54 = .ok (.aload 5, 2) := by decide +kernel
theorem d_Q_retire_56 : decode prog_1_method_5_code 56 = .ok (.getfield 84, 3) := by decide +kernel
theorem d_Q_retire_59 : decode prog_1_method_5_code 59 = .ok (.iload_n 3, 1) := by decide +kernel
theorem d_Q_retire_60 : decode prog_1_method_5_code 60 = .ok (.iconst 1, 1) := by decide +kernel
theorem d_Q_retire_61 : decode prog_1_method_5_code 61 = .ok (.iload 4, 2) := by decide +kernel
theorem d_Q_retire_63 : decode prog_1_method_5_code 63 = .ok (.ishl, 1) := by decide +kernel
theorem d_Q_retire_64 : decode prog_1_method_5_code 64 = .ok (.iconst (-1), 1) := by decide +kernel
theorem d_Q_retire_65 : decode prog_1_method_5_code 65 = .ok (.ixor, 1) := by decide +kernel
theorem d_Q_retire_66 : decode prog_1_method_5_code 66 = .ok (.iand, 1) := by decide +kernel
theorem d_Q_retire_67 : decode prog_1_method_5_code 67 = .ok (.putfield 116, 3) := by decide +kernel
theorem d_Q_retire_70 : decode prog_1_method_5_code 70 = .ok (.aload_n 0, 1) := by decide +kernel
theorem d_Q_retire_71 : decode prog_1_method_5_code 71 = .ok (.aload 5, 2) := by decide +kernel
theorem d_Q_retire_73 : decode prog_1_method_5_code 73 = .ok (.invokevirtual 73, 3) := by decide +kernel
theorem d_Q_retire_76 : decode prog_1_method_5_code 76 = .ok (.aload_n 0, 1) := by decide +kernel
theorem d_Q_retire_77 : decode prog_1_method_5_code 77 = .ok (.aload 5, 2) := by decide +kernel
theorem d_Q_retire_79 : decode prog_1_method_5_code 79 = .ok (.invokevirtual 77, 3) := by decide +kernel
theorem d_Q_retire_82 : decode prog_1_method_5_code 82 = .ok (.aload 5, 2) := by decide +kernel
theorem d_Q_retire_84 : decode prog_1_method_5_code 84 = .ok (.invokestatic 80, 3) := by decide +kernel
theorem d_Q_retire_87 : decode prog_1_method_5_code 87 = .ok (.ireturn, 1) := by decide +kernel
theorem d_Q_again_0 : decode prog_1_method_6_code 0 = .ok (.aload_n 0, 1) := by decide +kernel
theorem d_Q_again_1 : decode prog_1_method_6_code 1 = .ok (.iload_n 1, 1) := by decide +kernel
theorem d_Q_again_2 : decode prog_1_method_6_code 2 = .ok (.invokevirtual 93, 3) := by decide +kernel
theorem d_Q_again_5 : decode prog_1_method_6_code 5 = .ok (.astore_n 2, 1) := by decide +kernel
theorem d_Q_again_6 : decode prog_1_method_6_code 6 = .ok (.aload_n 2, 1) := by decide +kernel
theorem d_Q_again_7 : decode prog_1_method_6_code 7 = .ok (.ifnull 10, 3) := by decide +kernel
theorem d_Q_again_10 : decode prog_1_method_6_code 10 = .ok (.aload_n 2, 1) := by decide +kernel
theorem d_Q_again_11 : decode prog_1_method_6_code 11 = .ok (.invokevirtual 119, 3) := by decide +kernel
theorem d_Q_again_14 : decode prog_1_method_6_code 14 = .ok (.ifCond .ne 5, 3) := by decide +kernel
theorem d_Q_again_17 : decode prog_1_method_6_code 17 = .ok (.iconst (-1), 1) := by decide +kernel
theorem d_Q_again_18 : decode prog_1_method_6_code 18 = .ok (.ireturn, 1) := by decide +kernel
theorem d_Q_again_19 : decode prog_1_method_6_code 19 = .ok (.aload_n 2, 1) := by decide +kernel
theorem d_Q_again_20 : decode prog_1_method_6_code 20 = .ok (.getfield 84, 3) := by decide +kernel
theorem d_Q_again_23 : decode prog_1_method_6_code 23 = .ok (.astore_n 3, 1) := by decide +kernel
theorem d_Q_again_24 : decode prog_1_method_6_code 24 = .ok (.aload_n 3, 1) := by decide +kernel
theorem d_Q_again_25 : decode prog_1_method_6_code 25 = .ok (.getfield 123, 3) := by decide +kernel
theorem d_Q_again_28 : decode prog_1_method_6_code 28 = .ok (.iconst 3, 1) := by decide +kernel
theorem d_Q_again_29 : decode prog_1_method_6_code 29 = .ok (.if_icmp .ne 16, 3) := by decide +kernel
theorem d_Q_again_32 : decode prog_1_method_6_code 32 = .ok (.aload_n 0, 1) := by decide +kernel
theorem d_Q_again_33 : decode prog_1_method_6_code 33 = .ok (.aload_n 2, 1) := by decide +kernel
theorem d_Q_again_34 : decode prog_1_method_6_code 34 = .ok (.invokevirtual 73, 3) := by decide +kernel
theorem d_Q_again_37 : decode prog_1_method_6_code 37 = .ok (.aload_n 0, 1) := by decide +kernel
theorem d_Q_again_38 : decode prog_1_method_6_code 38 = .ok (.aload_n 2, 1) := by decide +kernel
theorem d_Q_again_39 : decode prog_1_method_6_code 39 = .ok (.invokevirtual 77, 3) := by decide +kernel
theorem d_Q_again_42 : decode prog_1_method_6_code 42 = .ok (.goto 8, 3) := by decide +kernel
theorem d_Q_again_45 : decode prog_1_method_6_code 45 = .ok (.aload_n 0, 1) := by decide +kernel
theorem d_Q_again_46 : decode prog_1_method_6_code 46 = .ok (.aload_n 2, 1) := by decide +kernel
theorem d_Q_again_47 : decode prog_1_method_6_code 47 = .ok (.invokevirtual 126, 3) := by decide +kernel
theorem d_Q_again_50 : decode prog_1_method_6_code 50 = .ok (.aload_n 2, 1) := by decide +kernel
theorem d_Q_again_51 : decode prog_1_method_6_code 51 = .ok (.invokevirtual 129, 3) := by decide +kernel
theorem d_Q_again_54 : decode prog_1_method_6_code 54 = .ok (.ifCond .eq 20, 3) := by decide +kernel
theorem d_Q_again_57 : decode prog_1_method_6_code 57 = .ok (.aload_n 3, 1) := by decide +kernel
theorem d_Q_again_58 : decode prog_1_method_6_code 58 = .ok (.getfield 132, 3) := by decide +kernel
theorem d_Q_again_61 : decode prog_1_method_6_code 61 = .ok (.aload_n 3, 1) := by decide +kernel
theorem d_Q_again_62 : decode prog_1_method_6_code 62 = .ok (.getfield 135, 3) := by decide +kernel
theorem d_Q_again_65 : decode prog_1_method_6_code 65 = .ok (.iconst (-1), 1) := by decide +kernel
theorem d_Q_again_66 : decode prog_1_method_6_code 66 = .ok (.ixor, 1) := by decide +kernel
theorem d_Q_again_67 : decode prog_1_method_6_code 67 = .ok (.iand, 1) := by decide +kernel
theorem d_Q_again_68 : decode prog_1_method_6_code 68 = .ok (.invokestatic 111, 3) := by decide +kernel
theorem d_Q_again_71 : decode prog_1_method_6_code 71 = .ok (.goto 5, 3) := by decide +kernel
theorem d_Q_again_74 : decode prog_1_method_6_code 74 = .ok (.bipush (-9), 2) := by decide +kernel
theorem d_Q_again_76 : decode prog_1_method_6_code 76 = .ok (.ireturn, 1) := by decide +kernel
theorem d_Q_gossip_0 : decode prog_1_method_7_code 0 = .ok (.aload_n 0, 1) := by decide +kernel
theorem d_Q_gossip_1 : decode prog_1_method_7_code 1 = .ok (.iload_n 1, 1) := by decide +kernel
theorem d_Q_gossip_2 : decode prog_1_method_7_code 2 = .ok (.invokevirtual 93, 3) := by decide +kernel
theorem d_Q_gossip_5 : decode prog_1_method_7_code 5 = .ok (.astore_n 3, 1) := by decide +kernel
theorem d_Q_gossip_6 : decode prog_1_method_7_code 6 = .ok (.aload_n 3, 1) := by decide +kernel
theorem d_Q_gossip_7 : decode prog_1_method_7_code 7 = .ok (.ifnull 16, 3) := by decide +kernel
theorem d_Q_gossip_10 : decode prog_1_method_7_code 10 = .ok (.aload_n 0, 1) := by decide +kernel
theorem d_Q_gossip_11 : decode prog_1_method_7_code 11 = .ok (.iload_n 2, 1) := by decide +kernel
theorem d_Q_gossip_12 : decode prog_1_method_7_code 12 = .ok (.invokevirtual 93, 3) := by decide +kernel
theorem d_Q_gossip_15 : decode prog_1_method_7_code 15 = .ok (.ifnull 8, 3) := by decide +kernel
theorem d_Q_gossip_18 : decode prog_1_method_7_code 18 = .ok (.iload_n 1, 1) := by decide +kernel
theorem d_Q_gossip_19 : decode prog_1_method_7_code 19 = .ok (.iload_n 2, 1) := by decide +kernel
theorem d_Q_gossip_20 : decode prog_1_method_7_code 20 = .ok (.if_icmp .ne 5, 3) := by decide +kernel
theorem d_Q_gossip_23 : decode prog_1_method_7_code 23 = .ok (.iconst 0, 1) := by decide +kernel
theorem d_Q_gossip_24 : decode prog_1_method_7_code 24 = .ok (.ireturn, 1) := by decide +kernel
theorem d_Q_gossip_25 : decode prog_1_method_7_code 25 = .ok (.aload_n 3, 1) := by decide +kernel
theorem d_Q_gossip_26 : decode prog_1_method_7_code 26 = .ok (.invokevirtual 129, 3) := by decide +kernel
theorem d_Q_gossip_29 : decode prog_1_method_7_code 29 = .ok (.ifCond .eq 14, 3) := by decide +kernel
theorem d_Q_gossip_32 : decode prog_1_method_7_code 32 = .ok (.aload_n 3, 1) := by decide +kernel
theorem d_Q_gossip_33 : decode prog_1_method_7_code 33 = .ok (.getfield 55, 3) := by decide +kernel
theorem d_Q_gossip_36 : decode prog_1_method_7_code 36 = .ok (.iconst 1, 1) := by decide +kernel
theorem d_Q_gossip_37 : decode prog_1_method_7_code 37 = .ok (.invokevirtual 101, 3) := by decide +kernel
theorem d_Q_gossip_40 : decode prog_1_method_7_code 40 = .ok (.ifCond .ne 5, 3) := by decide +kernel
theorem d_Q_gossip_43 : decode prog_1_method_7_code 43 = .ok (.iconst 0, 1) := by decide +kernel
theorem d_Q_gossip_44 : decode prog_1_method_7_code 44 = .ok (.ireturn, 1) := by decide +kernel
theorem d_Q_gossip_45 : decode prog_1_method_7_code 45 = .ok (.aload_n 0, 1) := by decide +kernel
theorem d_Q_gossip_46 : decode prog_1_method_7_code 46 = .ok (.getfield 25, 3) := by decide +kernel
theorem d_Q_gossip_49 : decode prog_1_method_7_code 49 = .ok (.bipush 14, 2) := by decide +kernel
theorem d_Q_gossip_51 : decode prog_1_method_7_code 51 = .ok (.aload_n 3, 1) := by decide +kernel
theorem d_Q_gossip_52 : decode prog_1_method_7_code 52 = .ok (.iload_n 2, 1) := by decide +kernel
theorem d_Q_gossip_53 : decode prog_1_method_7_code 53 = .ok (.invokevirtual 138, 3) := by decide +kernel
theorem d_Q_gossip_56 : decode prog_1_method_7_code 56 = .ok (.aload_n 0, 1) := by decide +kernel
theorem d_Q_gossip_57 : decode prog_1_method_7_code 57 = .ok (.getfield 25, 3) := by decide +kernel
theorem d_Q_gossip_60 : decode prog_1_method_7_code 60 = .ok (.getfield 142, 3) := by decide +kernel
theorem d_Q_gossip_63 : decode prog_1_method_7_code 63 = .ok (.aload_n 3, 1) := by decide +kernel
theorem d_Q_gossip_64 : decode prog_1_method_7_code 64 = .ok (.getfield 146, 3) := by decide +kernel
theorem d_Q_gossip_67 : decode prog_1_method_7_code 67 = .ok (.invokevirtual 149, 3) := by decide +kernel
theorem d_Q_gossip_70 : decode prog_1_method_7_code 70 = .ok (.aload_n 0, 1) := by decide +kernel
theorem d_Q_gossip_71 : decode prog_1_method_7_code 71 = .ok (.getfield 18, 3) := by decide +kernel
theorem d_Q_gossip_74 : decode prog_1_method_7_code 74 = .ok (.aload_n 0, 1) := by decide +kernel
theorem d_Q_gossip_75 : decode prog_1_method_7_code 75 = .ok (.getfield 25, 3) := by decide +kernel
theorem d_Q_gossip_78 : decode prog_1_method_7_code 78 = .ok (.invokevirtual 155, 3) := by decide +kernel
theorem d_Q_gossip_81 : decode prog_1_method_7_code 81 = .ok (.iconst 1, 1) := by decide +kernel
theorem d_Q_gossip_82 : decode prog_1_method_7_code 82 = .ok (.ireturn, 1) := by decide +kernel
theorem d_Q_join_0 : decode prog_1_method_8_code 0 = .ok (.aload_n 0, 1) := by decide +kernel
theorem d_Q_join_1 : decode prog_1_method_8_code 1 = .ok (.iload_n 1, 1) := by decide +kernel
theorem d_Q_join_2 : decode prog_1_method_8_code 2 = .ok (.invokevirtual 93, 3) := by decide +kernel
theorem d_Q_join_5 : decode prog_1_method_8_code 5 = .ok (.astore_n 3, 1) := by decide +kernel
theorem d_Q_join_6 : decode prog_1_method_8_code 6 = .ok (.aload_n 3, 1) := by decide +kernel
theorem d_Q_join_7 : decode prog_1_method_8_code 7 = .ok (.ifnull 16, 3) := by decide +kernel
theorem d_Q_join_10 : decode prog_1_method_8_code 10 = .ok (.aload_n 0, 1) := by decide +kernel
theorem d_Q_join_11 : decode prog_1_method_8_code 11 = .ok (.iload_n 2, 1) := by decide +kernel
theorem d_Q_join_12 : decode prog_1_method_8_code 12 = .ok (.invokevirtual 93, 3) := by decide +kernel
theorem d_Q_join_15 : decode prog_1_method_8_code 15 = .ok (.ifnull 8, 3) := by decide +kernel
theorem d_Q_join_18 : decode prog_1_method_8_code 18 = .ok (.iload_n 1, 1) := by decide +kernel
theorem d_Q_join_19 : decode prog_1_method_8_code 19 = .ok (.iload_n 2, 1) := by decide +kernel
theorem d_Q_join_20 : decode prog_1_method_8_code 20 = .ok (.if_icmp .ne 5, 3) := by decide +kernel
theorem d_Q_join_23 : decode prog_1_method_8_code 23 = .ok (.iconst 0, 1) := by decide +kernel
theorem d_Q_join_24 : decode prog_1_method_8_code 24 = .ok (.ireturn, 1) := by decide +kernel
theorem d_Q_join_25 : decode prog_1_method_8_code 25 = .ok (.aload_n 3, 1) := by decide +kernel
theorem d_Q_join_26 : decode prog_1_method_8_code 26 = .ok (.getfield 52, 3) := by decide +kernel
theorem d_Q_join_29 : decode prog_1_method_8_code 29 = .ok (.iconst 2, 1) := by decide +kernel
theorem d_Q_join_30 : decode prog_1_method_8_code 30 = .ok (.if_icmp .eq 21, 3) := by decide +kernel
theorem d_Q_join_33 : decode prog_1_method_8_code 33 = .ok (.aload_n 3, 1) := by decide +kernel
theorem d_Q_join_34 : decode prog_1_method_8_code 34 = .ok (.invokevirtual 129, 3) := by decide +kernel
theorem d_Q_join_37 : decode prog_1_method_8_code 37 = .ok (.ifCond .eq 16, 3) := by decide +kernel
theorem d_Q_join_40 : decode prog_1_method_8_code 40 = .ok (.aload_n 3, 1) := by decide +kernel
theorem d_Q_join_41 : decode prog_1_method_8_code 41 = .ok (.getfield 55, 3) := by decide +kernel
theorem d_Q_join_44 : decode prog_1_method_8_code 44 = .ok (.iconst 1, 1) := by decide +kernel
theorem d_Q_join_45 : decode prog_1_method_8_code 45 = .ok (.invokevirtual 101, 3) := by decide +kernel
theorem d_Q_join_48 : decode prog_1_method_8_code 48 = .ok (.ifCond .eq 5, 3) := by decide +kernel
theorem d_Q_join_51 : decode prog_1_method_8_code 51 = .ok (.iconst 0, 1) := by decide +kernel
theorem d_Q_join_52 : decode prog_1_method_8_code 52 = .ok (.ireturn, 1) := by decide +kernel
theorem d_Q_join_53 : decode prog_1_method_8_code 53 = .ok (.aload_n 3, 1) := by decide +kernel
theorem d_Q_join_54 : decode prog_1_method_8_code 54 = .ok (.iconst 1, 1) := by decide +kernel
theorem d_Q_join_55 : decode prog_1_method_8_code 55 = .ok (.putfield 52, 3) := by decide +kernel
theorem d_Q_join_58 : decode prog_1_method_8_code 58 = .ok (.aload_n 0, 1) := by decide +kernel
theorem d_Q_join_59 : decode prog_1_method_8_code 59 = .ok (.getfield 25, 3) := by decide +kernel
theorem d_Q_join_62 : decode prog_1_method_8_code 62 = .ok (.bipush 15, 2) := by decide +kernel
theorem d_Q_join_64 : decode prog_1_method_8_code 64 = .ok (.aload_n 3, 1) := by decide +kernel
theorem d_Q_join_65 : decode prog_1_method_8_code 65 = .ok (.iload_n 2, 1) := by decide +kernel
theorem d_Q_join_66 : decode prog_1_method_8_code 66 = .ok (.invokevirtual 138, 3) := by decide +kernel
theorem d_Q_join_69 : decode prog_1_method_8_code 69 = .ok (.aload_n 0, 1) := by decide +kernel
theorem d_Q_join_70 : decode prog_1_method_8_code 70 = .ok (.getfield 18, 3) := by decide +kernel
theorem d_Q_join_73 : decode prog_1_method_8_code 73 = .ok (.aload_n 0, 1) := by decide +kernel
theorem d_Q_join_74 : decode prog_1_method_8_code 74 = .ok (.getfield 25, 3) := by decide +kernel
theorem d_Q_join_77 : decode prog_1_method_8_code 77 = .ok (.invokevirtual 155, 3) := by decide +kernel
theorem d_Q_join_80 : decode prog_1_method_8_code 80 = .ok (.iconst 1, 1) := by decide +kernel
theorem d_Q_join_81 : decode prog_1_method_8_code 81 = .ok (.ireturn, 1) := by decide +kernel
theorem d_Q_deliver_0 : decode prog_1_method_9_code 0 = .ok (.aload_n 0, 1) := by decide +kernel
theorem d_Q_deliver_1 : decode prog_1_method_9_code 1 = .ok (.getfield 18, 3) := by decide +kernel
theorem d_Q_deliver_4 : decode prog_1_method_9_code 4 = .ok (.iload_n 1, 1) := by decide +kernel
theorem d_Q_deliver_5 : decode prog_1_method_9_code 5 = .ok (.invokevirtual 159, 3) := by decide +kernel
theorem d_Q_deliver_8 : decode prog_1_method_9_code 8 = .ok (.astore_n 2, 1) := by decide +kernel
theorem d_Q_deliver_9 : decode prog_1_method_9_code 9 = .ok (.aload_n 2, 1) := by decide +kernel
theorem d_Q_deliver_10 : decode prog_1_method_9_code 10 = .ok (.ifnonnull 5, 3) := by decide +kernel
theorem d_Q_deliver_13 : decode prog_1_method_9_code 13 = .ok (.iconst (-1), 1) := by decide +kernel
theorem d_Q_deliver_14 : decode prog_1_method_9_code 14 = .ok (.ireturn, 1) := by decide +kernel
theorem d_Q_deliver_15 : decode prog_1_method_9_code 15 = .ok (.aload_n 0, 1) := by decide +kernel
theorem d_Q_deliver_16 : decode prog_1_method_9_code 16 = .ok (.aload_n 2, 1) := by decide +kernel
theorem d_Q_deliver_17 : decode prog_1_method_9_code 17 = .ok (.getfield 163, 3) := by decide +kernel
theorem d_Q_deliver_20 : decode prog_1_method_9_code 20 = .ok (.invokevirtual 93, 3) := by decide +kernel
theorem d_Q_deliver_23 : decode prog_1_method_9_code 23 = .ok (.astore_n 3, 1) := by decide +kernel
theorem d_Q_deliver_24 : decode prog_1_method_9_code 24 = .ok (.aload_n 3, 1) := by decide +kernel
theorem d_Q_deliver_25 : decode prog_1_method_9_code 25 = .ok (.ifnull 10, 3) := by decide +kernel
theorem d_Q_deliver_28 : decode prog_1_method_9_code 28 = .ok (.aload_n 3, 1) := by decide +kernel
theorem d_Q_deliver_29 : decode prog_1_method_9_code 29 = .ok (.invokevirtual 129, 3) := by decide +kernel
theorem d_Q_deliver_32 : decode prog_1_method_9_code 32 = .ok (.ifCond .ne 5, 3) := by decide +kernel
theorem d_Q_deliver_35 : decode prog_1_method_9_code 35 = .ok (.iconst 0, 1) := by decide +kernel
theorem d_Q_deliver_36 : decode prog_1_method_9_code 36 = .ok (.ireturn, 1) := by decide +kernel
theorem d_Q_deliver_37 : decode prog_1_method_9_code 37 = .ok (.aload_n 3, 1) := by decide +kernel
theorem d_Q_deliver_38 : decode prog_1_method_9_code 38 = .ok (.getfield 55, 3) := by decide +kernel
theorem d_Q_deliver_41 : decode prog_1_method_9_code 41 = .ok (.iconst 1, 1) := by decide +kernel
theorem d_Q_deliver_42 : decode prog_1_method_9_code 42 = .ok (.invokevirtual 101, 3) := by decide +kernel
theorem d_Q_deliver_45 : decode prog_1_method_9_code 45 = .ok (.istore 4, 2) := by decide +kernel
theorem d_Q_deliver_47 : decode prog_1_method_9_code 47 = .ok (.aload_n 3, 1) := by decide +kernel
theorem d_Q_deliver_48 : decode prog_1_method_9_code 48 = .ok (.aload_n 2, 1) := by decide +kernel
theorem d_Q_deliver_49 : decode prog_1_method_9_code 49 = .ok (.getfield 166, 3) := by decide +kernel
theorem d_Q_deliver_52 : decode prog_1_method_9_code 52 = .ok (.invokevirtual 167, 3) := by decide +kernel
theorem d_Q_deliver_55 : decode prog_1_method_9_code 55 = .ok (.ifCond .eq 15, 3) := by decide +kernel
theorem d_Q_deliver_58 : decode prog_1_method_9_code 58 = .ok (.aload_n 0, 1) := by decide +kernel
theorem d_Q_deliver_59 : decode prog_1_method_9_code 59 = .ok (.aload_n 3, 1) := by decide +kernel
theorem d_Q_deliver_60 : decode prog_1_method_9_code 60 = .ok (.iload 4, 2) := by decide +kernel
theorem d_Q_deliver_62 : decode prog_1_method_9_code 62 = .ok (.invokevirtual 171, 3) := by decide +kernel
theorem d_Q_deliver_65 : decode prog_1_method_9_code 65 = .ok (.aload_n 0, 1) := by decide +kernel
theorem d_Q_deliver_66 : decode prog_1_method_9_code 66 = .ok (.aload_n 3, 1) := by decide +kernel
theorem d_Q_deliver_67 : decode prog_1_method_9_code 67 = .ok (.invokevirtual 77, 3) := by decide +kernel
theorem d_Q_deliver_70 : decode prog_1_method_9_code 70 = .ok (.aload_n 3, 1) := by decide +kernel
theorem d_Q_deliver_71 : decode prog_1_method_9_code 71 = .ok (.invokevirtual 129, 3) := by decide +kernel
theorem d_Q_deliver_74 : decode prog_1_method_9_code 74 = .ok (.ifCond .eq 26, 3) := by decide +kernel
theorem d_Q_deliver_77 : decode prog_1_method_9_code 77 = .ok (.aload_n 2, 1) := by decide +kernel
theorem d_Q_deliver_78 : decode prog_1_method_9_code 78 = .ok (.getfield 175, 3) := by decide +kernel
theorem d_Q_deliver_81 : decode prog_1_method_9_code 81 = .ok (.invokestatic 176, 3) := by decide +kernel
theorem d_Q_deliver_84 : decode prog_1_method_9_code 84 = .ok (.ifCond .eq 16, 3) := by decide +kernel
theorem d_Q_deliver_87 : decode prog_1_method_9_code 87 = .ok (.aload_n 3, 1) := by decide +kernel
theorem d_Q_deliver_88 : decode prog_1_method_9_code 88 = .ok (.aload_n 2, 1) := by decide +kernel
theorem d_Q_deliver_89 : decode prog_1_method_9_code 89 = .ok (.invokestatic 179, 3) := by decide +kernel
theorem d_Q_deliver_92 : decode prog_1_method_9_code 92 = .ok (.aload_n 0, 1) := by decide +kernel
theorem d_Q_deliver_93 : decode prog_1_method_9_code 93 = .ok (.aload_n 3, 1) := by decide +kernel
theorem d_Q_deliver_94 : decode prog_1_method_9_code 94 = .ok (.invokevirtual 77, 3) := by decide +kernel
theorem d_Q_deliver_97 : decode prog_1_method_9_code 97 = .ok (.goto 21, 3) := by decide +kernel
theorem d_Q_deliver_100 : decode prog_1_method_9_code 100 = .ok (.aload_n 3, 1) := by decide +kernel
theorem d_Q_deliver_101 : decode prog_1_method_9_code 101 = .ok (.invokevirtual 129, 3) := by decide +kernel
theorem d_Q_deliver_104 : decode prog_1_method_9_code 104 = .ok (.ifCond .eq 14, 3) := by decide +kernel
theorem d_Q_deliver_107 : decode prog_1_method_9_code 107 = .ok (.aload_n 0, 1) := by decide +kernel
theorem d_Q_deliver_108 : decode prog_1_method_9_code 108 = .ok (.aload_n 3, 1) := by decide +kernel
theorem d_Q_deliver_109 : decode prog_1_method_9_code 109 = .ok (.aload_n 2, 1) := by decide +kernel
theorem d_Q_deliver_110 : decode prog_1_method_9_code 110 = .ok (.invokevirtual 183, 3) := by decide +kernel
theorem d_Q_deliver_113 : decode prog_1_method_9_code 113 = .ok (.aload_n 0, 1) := by decide +kernel
theorem d_Q_deliver_114 : decode prog_1_method_9_code 114 = .ok (.aload_n 3, 1) := by decide +kernel
theorem d_Q_deliver_115 : decode prog_1_method_9_code 115 = .ok (.invokevirtual 186, 3) := by decide +kernel
theorem d_Q_deliver_118 : decode prog_1_method_9_code 118 = .ok (.iconst 1, 1) := by decide +kernel
theorem d_Q_deliver_119 : decode prog_1_method_9_code 119 = .ok (.ireturn, 1) := by decide +kernel
theorem d_Q_lose_0 : decode prog_1_method_10_code 0 = .ok (.aload_n 0, 1) := by decide +kernel
theorem d_Q_lose_1 : decode prog_1_method_10_code 1 = .ok (.getfield 18, 3) := by decide +kernel
theorem d_Q_lose_4 : decode prog_1_method_10_code 4 = .ok (.iload_n 1, 1) := by decide +kernel
theorem d_Q_lose_5 : decode prog_1_method_10_code 5 = .ok (.invokevirtual 159, 3) := by decide +kernel
theorem d_Q_lose_8 : decode prog_1_method_10_code 8 = .ok (.ifnull 7, 3) := by decide +kernel
theorem d_Q_lose_11 : decode prog_1_method_10_code 11 = .ok (.iconst 1, 1) := by decide +kernel
theorem d_Q_lose_12 : decode prog_1_method_10_code 12 = .ok (.goto 4, 3) := by decide +kernel
theorem d_Q_lose_15 : decode prog_1_method_10_code 15 = .ok (.iconst 0, 1) := by decide +kernel
theorem d_Q_lose_16 : decode prog_1_method_10_code 16 = .ok (.ireturn, 1) := by decide +kernel
theorem d_Q_twice_0 : decode prog_1_method_11_code 0 = .ok (.aload_n 0, 1) := by decide +kernel
theorem d_Q_twice_1 : decode prog_1_method_11_code 1 = .ok (.getfield 18, 3) := by decide +kernel
theorem d_Q_twice_4 : decode prog_1_method_11_code 4 = .ok (.iload_n 1, 1) := by decide +kernel
theorem d_Q_twice_5 : decode prog_1_method_11_code 5 = .ok (.invokevirtual 189, 3) := by decide +kernel
theorem d_Q_twice_8 : decode prog_1_method_11_code 8 = .ok (.astore_n 2, 1) := by decide +kernel
theorem d_Q_twice_9 : decode prog_1_method_11_code 9 = .ok (.aload_n 2, 1) := by decide +kernel
theorem d_Q_twice_10 : decode prog_1_method_11_code 10 = .ok (.ifnull 15, 3) := by decide +kernel
theorem d_Q_twice_13 : decode prog_1_method_11_code 13 = .ok (.aload_n 0, 1) := by decide +kernel
theorem d_Q_twice_14 : decode prog_1_method_11_code 14 = .ok (.getfield 18, 3) := by decide +kernel
theorem d_Q_twice_17 : decode prog_1_method_11_code 17 = .ok (.getfield 192, 3) := by decide +kernel
theorem d_Q_twice_20 : decode prog_1_method_11_code 20 = .ok (.bipush 120, 2) := by decide +kernel
theorem d_Q_twice_22 : decode prog_1_method_11_code 22 = .ok (.if_icmp .lt 5, 3) := by decide +kernel
theorem d_Q_twice_25 : decode prog_1_method_11_code 25 = .ok (.iconst 0, 1) := by decide +kernel
theorem d_Q_twice_26 : decode prog_1_method_11_code 26 = .ok (.ireturn, 1) := by decide +kernel
theorem d_Q_twice_27 : decode prog_1_method_11_code 27 = .ok (.aload_n 0, 1) := by decide +kernel
theorem d_Q_twice_28 : decode prog_1_method_11_code 28 = .ok (.getfield 18, 3) := by decide +kernel
theorem d_Q_twice_31 : decode prog_1_method_11_code 31 = .ok (.aload_n 2, 1) := by decide +kernel
theorem d_Q_twice_32 : decode prog_1_method_11_code 32 = .ok (.invokevirtual 155, 3) := by decide +kernel
theorem d_Q_twice_35 : decode prog_1_method_11_code 35 = .ok (.iconst 1, 1) := by decide +kernel
theorem d_Q_twice_36 : decode prog_1_method_11_code 36 = .ok (.ireturn, 1) := by decide +kernel
theorem d_Q_crash_0 : decode prog_1_method_12_code 0 = .ok (.aload_n 0, 1) := by decide +kernel
theorem d_Q_crash_1 : decode prog_1_method_12_code 1 = .ok (.iload_n 1, 1) := by decide +kernel
theorem d_Q_crash_2 : decode prog_1_method_12_code 2 = .ok (.invokevirtual 93, 3) := by decide +kernel
theorem d_Q_crash_5 : decode prog_1_method_12_code 5 = .ok (.astore_n 2, 1) := by decide +kernel
theorem d_Q_crash_6 : decode prog_1_method_12_code 6 = .ok (.aload_n 2, 1) := by decide +kernel
theorem d_Q_crash_7 : decode prog_1_method_12_code 7 = .ok (.ifnull 10, 3) := by decide +kernel
theorem d_Q_crash_10 : decode prog_1_method_12_code 10 = .ok (.aload_n 2, 1) := by decide +kernel
theorem d_Q_crash_11 : decode prog_1_method_12_code 11 = .ok (.invokevirtual 129, 3) := by decide +kernel
theorem d_Q_crash_14 : decode prog_1_method_12_code 14 = .ok (.ifCond .ne 5, 3) := by decide +kernel
theorem d_Q_crash_17 : decode prog_1_method_12_code 17 = .ok (.iconst 0, 1) := by decide +kernel
theorem d_Q_crash_18 : decode prog_1_method_12_code 18 = .ok (.ireturn, 1) := by decide +kernel
theorem d_Q_crash_19 : decode prog_1_method_12_code 19 = .ok (.aload_n 2, 1) := by decide +kernel
theorem d_Q_crash_20 : decode prog_1_method_12_code 20 = .ok (.invokevirtual 195, 3) := by decide +kernel
theorem d_Q_crash_23 : decode prog_1_method_12_code 23 = .ok (.iconst 1, 1) := by decide +kernel
theorem d_Q_crash_24 : decode prog_1_method_12_code 24 = .ok (.ireturn, 1) := by decide +kernel
theorem d_Q_restart_0 : decode prog_1_method_13_code 0 = .ok (.aload_n 0, 1) := by decide +kernel
theorem d_Q_restart_1 : decode prog_1_method_13_code 1 = .ok (.iload_n 1, 1) := by decide +kernel
theorem d_Q_restart_2 : decode prog_1_method_13_code 2 = .ok (.invokevirtual 93, 3) := by decide +kernel
theorem d_Q_restart_5 : decode prog_1_method_13_code 5 = .ok (.astore_n 2, 1) := by decide +kernel
theorem d_Q_restart_6 : decode prog_1_method_13_code 6 = .ok (.aload_n 2, 1) := by decide +kernel
theorem d_Q_restart_7 : decode prog_1_method_13_code 7 = .ok (.ifnull 11, 3) := by decide +kernel
theorem d_Q_restart_10 : decode prog_1_method_13_code 10 = .ok (.aload_n 2, 1) := by decide +kernel
theorem d_Q_restart_11 : decode prog_1_method_13_code 11 = .ok (.getfield 52, 3) := by decide +kernel
theorem d_Q_restart_14 : decode prog_1_method_13_code 14 = .ok (.iconst 2, 1) := by decide +kernel
theorem d_Q_restart_15 : decode prog_1_method_13_code 15 = .ok (.if_icmp .eq 5, 3) := by decide +kernel
theorem d_Q_restart_18 : decode prog_1_method_13_code 18 = .ok (.iconst 0, 1) := by decide +kernel
theorem d_Q_restart_19 : decode prog_1_method_13_code 19 = .ok (.ireturn, 1) := by decide +kernel
theorem d_Q_restart_20 : decode prog_1_method_13_code 20 = .ok (.aload_n 2, 1) := by decide +kernel
theorem d_Q_restart_21 : decode prog_1_method_13_code 21 = .ok (.iconst 1, 1) := by decide +kernel
theorem d_Q_restart_22 : decode prog_1_method_13_code 22 = .ok (.putfield 52, 3) := by decide +kernel
theorem d_Q_restart_25 : decode prog_1_method_13_code 25 = .ok (.aload_n 2, 1) := by decide +kernel
theorem d_Q_restart_26 : decode prog_1_method_13_code 26 = .ok (.invokevirtual 198, 3) := by decide +kernel
theorem d_Q_restart_29 : decode prog_1_method_13_code 29 = .ok (.ifCond .eq 13, 3) := by decide +kernel
theorem d_Q_restart_32 : decode prog_1_method_13_code 32 = .ok (.aload_n 2, 1) := by decide +kernel
theorem d_Q_restart_33 : decode prog_1_method_13_code 33 = .ok (.dup, 1) := by decide +kernel
theorem d_Q_restart_34 : decode prog_1_method_13_code 34 = .ok (.getfield 201, 3) := by decide +kernel
theorem d_Q_restart_37 : decode prog_1_method_13_code 37 = .ok (.iconst 1, 1) := by decide +kernel
theorem d_Q_restart_38 : decode prog_1_method_13_code 38 = .ok (.iadd, 1) := by decide +kernel
theorem d_Q_restart_39 : decode prog_1_method_13_code 39 = .ok (.putfield 201, 3) := by decide +kernel
theorem d_Q_restart_42 : decode prog_1_method_13_code 42 = .ok (.iconst 1, 1) := by decide +kernel
theorem d_Q_restart_43 : decode prog_1_method_13_code 43 = .ok (.ireturn, 1) := by decide +kernel
theorem d_Q_arm_0 : decode prog_1_method_14_code 0 = .ok (.aload_n 0, 1) := by decide +kernel
theorem d_Q_arm_1 : decode prog_1_method_14_code 1 = .ok (.iload_n 1, 1) := by decide +kernel
theorem d_Q_arm_2 : decode prog_1_method_14_code 2 = .ok (.invokevirtual 93, 3) := by decide +kernel
theorem d_Q_arm_5 : decode prog_1_method_14_code 5 = .ok (.astore_n 3, 1) := by decide +kernel
theorem d_Q_arm_6 : decode prog_1_method_14_code 6 = .ok (.aload_n 3, 1) := by decide +kernel
theorem d_Q_arm_7 : decode prog_1_method_14_code 7 = .ok (.ifnull 20, 3) := by decide +kernel
theorem d_Q_arm_10 : decode prog_1_method_14_code 10 = .ok (.aload_n 3, 1) := by decide +kernel
theorem d_Q_arm_11 : decode prog_1_method_14_code 11 = .ok (.invokevirtual 129, 3) := by decide +kernel
theorem d_Q_arm_14 : decode prog_1_method_14_code 14 = .ok (.ifCond .eq 13, 3) := by decide +kernel
theorem d_Q_arm_17 : decode prog_1_method_14_code 17 = .ok (.iload_n 2, 1) := by decide +kernel
theorem d_Q_arm_18 : decode prog_1_method_14_code 18 = .ok (.ifCond .lt 9, 3) := by decide +kernel
theorem d_Q_arm_21 : decode prog_1_method_14_code 21 = .ok (.iload_n 2, 1) := by decide +kernel
theorem d_Q_arm_22 : decode prog_1_method_14_code 22 = .ok (.bipush 100, 2) := by decide +kernel
theorem d_Q_arm_24 : decode prog_1_method_14_code 24 = .ok (.if_icmp .le 5, 3) := by decide +kernel
theorem d_Q_arm_27 : decode prog_1_method_14_code 27 = .ok (.iconst 0, 1) := by decide +kernel
theorem d_Q_arm_28 : decode prog_1_method_14_code 28 = .ok (.ireturn, 1) := by decide +kernel
theorem d_Q_arm_29 : decode prog_1_method_14_code 29 = .ok (.aload_n 3, 1) := by decide +kernel
theorem d_Q_arm_30 : decode prog_1_method_14_code 30 = .ok (.iload_n 2, 1) := by decide +kernel
theorem d_Q_arm_31 : decode prog_1_method_14_code 31 = .ok (.putfield 204, 3) := by decide +kernel
theorem d_Q_arm_34 : decode prog_1_method_14_code 34 = .ok (.iconst 1, 1) := by decide +kernel
theorem d_Q_arm_35 : decode prog_1_method_14_code 35 = .ok (.ireturn, 1) := by decide +kernel
theorem d_Q_node_0 : decode prog_1_method_15_code 0 = .ok (.aload_n 0, 1) := by decide +kernel
theorem d_Q_node_1 : decode prog_1_method_15_code 1 = .ok (.iload_n 1, 1) := by decide +kernel
theorem d_Q_node_2 : decode prog_1_method_15_code 2 = .ok (.invokevirtual 93, 3) := by decide +kernel
theorem d_Q_node_5 : decode prog_1_method_15_code 5 = .ok (.astore_n 3, 1) := by decide +kernel
theorem d_Q_node_6 : decode prog_1_method_15_code 6 = .ok (.aload_n 3, 1) := by decide +kernel
theorem d_Q_node_7 : decode prog_1_method_15_code 7 = .ok (.ifnonnull 5, 3) := by decide +kernel
theorem d_Q_node_10 : decode prog_1_method_15_code 10 = .ok (.iconst (-1), 1) := by decide +kernel
theorem d_Q_node_11 : decode prog_1_method_15_code 11 = .ok (.ireturn, 1) := by decide +kernel
theorem d_Q_node_12 : decode prog_1_method_15_code 12 = .ok (.iload_n 2, 1) := by decide +kernel
theorem d_Q_node_13 : decode prog_1_method_15_code 13 = .ok (.tableswitch 92 0 6 #[43, 48, 53, 58, 70, 82, 87], 43) := by decide +kernel
theorem d_Q_node_56 : decode prog_1_method_15_code 56 = .ok (.aload_n 3, 1) := by decide +kernel
theorem d_Q_node_57 : decode prog_1_method_15_code 57 = .ok (.getfield 52, 3) := by decide +kernel
theorem d_Q_node_60 : decode prog_1_method_15_code 60 = .ok (.ireturn, 1) := by decide +kernel
theorem d_Q_node_61 : decode prog_1_method_15_code 61 = .ok (.aload_n 3, 1) := by decide +kernel
theorem d_Q_node_62 : decode prog_1_method_15_code 62 = .ok (.getfield 201, 3) := by decide +kernel
theorem d_Q_node_65 : decode prog_1_method_15_code 65 = .ok (.ireturn, 1) := by decide +kernel
theorem d_Q_node_66 : decode prog_1_method_15_code 66 = .ok (.aload_n 3, 1) := by decide +kernel
theorem d_Q_node_67 : decode prog_1_method_15_code 67 = .ok (.getfield 207, 3) := by decide +kernel
theorem d_Q_node_70 : decode prog_1_method_15_code 70 = .ok (.ireturn, 1) := by decide +kernel
theorem d_Q_node_71 : decode prog_1_method_15_code 71 = .ok (.aload_n 3, 1) := by decide +kernel
theorem d_Q_node_72 : decode prog_1_method_15_code 72 = .ok (.getfield 55, 3) := by decide +kernel
theorem d_Q_node_75 : decode prog_1_method_15_code 75 = .ok (.iconst 1, 1) := by decide +kernel
theorem d_Q_node_76 : decode prog_1_method_15_code 76 = .ok (.invokevirtual 101, 3) := by decide +kernel
theorem d_Q_node_79 : decode prog_1_method_15_code 79 = .ok (.invokestatic 210, 3) := by decide +kernel
theorem d_Q_node_82 : decode prog_1_method_15_code 82 = .ok (.ireturn, 1) := by decide +kernel
theorem d_Q_node_83 : decode prog_1_method_15_code 83 = .ok (.aload_n 3, 1) := by decide +kernel
theorem d_Q_node_84 : decode prog_1_method_15_code 84 = .ok (.getfield 55, 3) := by decide +kernel
theorem d_Q_node_87 : decode prog_1_method_15_code 87 = .ok (.iconst 1, 1) := by decide +kernel
theorem d_Q_node_88 : decode prog_1_method_15_code 88 = .ok (.invokevirtual 101, 3) := by decide +kernel
theorem d_Q_node_91 : decode prog_1_method_15_code 91 = .ok (.invokestatic 105, 3) := by decide +kernel
theorem d_Q_node_94 : decode prog_1_method_15_code 94 = .ok (.ireturn, 1) := by decide +kernel
theorem d_Q_node_95 : decode prog_1_method_15_code 95 = .ok (.aload_n 3, 1) := by decide +kernel
theorem d_Q_node_96 : decode prog_1_method_15_code 96 = .ok (.getfield 213, 3) := by decide +kernel
theorem d_Q_node_99 : decode prog_1_method_15_code 99 = .ok (.ireturn, 1) := by decide +kernel
theorem d_Q_node_100 : decode prog_1_method_15_code 100 = .ok (.aload_n 3, 1) := by decide +kernel
theorem d_Q_node_101 : decode prog_1_method_15_code 101 = .ok (.getfield 204, 3) := by decide +kernel
theorem d_Q_node_104 : decode prog_1_method_15_code 104 = .ok (.ireturn, 1) := by decide +kernel
theorem d_Q_node_105 : decode prog_1_method_15_code 105 = .ok (.iconst (-1), 1) := by decide +kernel
theorem d_Q_node_106 : decode prog_1_method_15_code 106 = .ok (.ireturn, 1) := by decide +kernel
theorem d_Q_cell_0 : decode prog_1_method_16_code 0 = .ok (.aload_n 0, 1) := by decide +kernel
theorem d_Q_cell_1 : decode prog_1_method_16_code 1 = .ok (.iload_n 1, 1) := by decide +kernel
theorem d_Q_cell_2 : decode prog_1_method_16_code 2 = .ok (.invokevirtual 93, 3) := by decide +kernel
theorem d_Q_cell_5 : decode prog_1_method_16_code 5 = .ok (.astore 4, 2) := by decide +kernel
theorem d_Q_cell_7 : decode prog_1_method_16_code 7 = .ok (.aload 4, 2) := by decide +kernel
theorem d_Q_cell_9 : decode prog_1_method_16_code 9 = .ok (.ifnull 10, 3) := by decide +kernel
theorem d_Q_cell_12 : decode prog_1_method_16_code 12 = .ok (.iload_n 2, 1) := by decide +kernel
theorem d_Q_cell_13 : decode prog_1_method_16_code 13 = .ok (.invokestatic 65, 3) := by decide +kernel
theorem d_Q_cell_16 : decode prog_1_method_16_code 16 = .ok (.ifCond .ne 5, 3) := by decide +kernel
theorem d_Q_cell_19 : decode prog_1_method_16_code 19 = .ok (.iconst (-1), 1) := by decide +kernel
theorem d_Q_cell_20 : decode prog_1_method_16_code 20 = .ok (.ireturn, 1) := by decide +kernel
theorem d_Q_cell_21 : decode prog_1_method_16_code 21 = .ok (.iload_n 3, 1) := by decide +kernel
theorem d_Q_cell_22 : decode prog_1_method_16_code 22 = .ok (.tableswitch 56 0 2 #[26, 36, 46], 26) := by decide +kernel
theorem d_Q_cell_48 : decode prog_1_method_16_code 48 = .ok (.aload 4, 2) := by decide +kernel
theorem d_Q_cell_50 : decode prog_1_method_16_code 50 = .ok (.getfield 146, 3) := by decide +kernel
theorem d_Q_cell_53 : decode prog_1_method_16_code 53 = .ok (.iload_n 2, 1) := by decide +kernel
theorem d_Q_cell_54 : decode prog_1_method_16_code 54 = .ok (.invokevirtual 216, 3) := by decide +kernel
theorem d_Q_cell_57 : decode prog_1_method_16_code 57 = .ok (.ireturn, 1) := by decide +kernel
theorem d_Q_cell_58 : decode prog_1_method_16_code 58 = .ok (.aload 4, 2) := by decide +kernel
theorem d_Q_cell_60 : decode prog_1_method_16_code 60 = .ok (.getfield 146, 3) := by decide +kernel
theorem d_Q_cell_63 : decode prog_1_method_16_code 63 = .ok (.iload_n 2, 1) := by decide +kernel
theorem d_Q_cell_64 : decode prog_1_method_16_code 64 = .ok (.invokevirtual 219, 3) := by decide +kernel
theorem d_Q_cell_67 : decode prog_1_method_16_code 67 = .ok (.ireturn, 1) := by decide +kernel
theorem d_Q_cell_68 : decode prog_1_method_16_code 68 = .ok (.aload 4, 2) := by decide +kernel
theorem d_Q_cell_70 : decode prog_1_method_16_code 70 = .ok (.getfield 146, 3) := by decide +kernel
theorem d_Q_cell_73 : decode prog_1_method_16_code 73 = .ok (.iload_n 2, 1) := by decide +kernel
theorem d_Q_cell_74 : decode prog_1_method_16_code 74 = .ok (.invokevirtual 222, 3) := by decide +kernel
theorem d_Q_cell_77 : decode prog_1_method_16_code 77 = .ok (.ireturn, 1) := by decide +kernel
theorem d_Q_cell_78 : decode prog_1_method_16_code 78 = .ok (.iconst (-1), 1) := by decide +kernel
theorem d_Q_cell_79 : decode prog_1_method_16_code 79 = .ok (.ireturn, 1) := by decide +kernel
theorem d_Q_map_0 : decode prog_1_method_17_code 0 = .ok (.aload_n 0, 1) := by decide +kernel
theorem d_Q_map_1 : decode prog_1_method_17_code 1 = .ok (.iload_n 1, 1) := by decide +kernel
theorem d_Q_map_2 : decode prog_1_method_17_code 2 = .ok (.invokevirtual 93, 3) := by decide +kernel
theorem d_Q_map_5 : decode prog_1_method_17_code 5 = .ok (.astore 4, 2) := by decide +kernel
theorem d_Q_map_7 : decode prog_1_method_17_code 7 = .ok (.aload 4, 2) := by decide +kernel
theorem d_Q_map_9 : decode prog_1_method_17_code 9 = .ok (.ifnull 10, 3) := by decide +kernel
theorem d_Q_map_12 : decode prog_1_method_17_code 12 = .ok (.iload_n 2, 1) := by decide +kernel
theorem d_Q_map_13 : decode prog_1_method_17_code 13 = .ok (.invokestatic 225, 3) := by decide +kernel
theorem d_Q_map_16 : decode prog_1_method_17_code 16 = .ok (.ifCond .ne 5, 3) := by decide +kernel
theorem d_Q_map_19 : decode prog_1_method_17_code 19 = .ok (.iconst (-1), 1) := by decide +kernel
theorem d_Q_map_20 : decode prog_1_method_17_code 20 = .ok (.ireturn, 1) := by decide +kernel
theorem d_Q_map_21 : decode prog_1_method_17_code 21 = .ok (.iload_n 3, 1) := by decide +kernel
theorem d_Q_map_22 : decode prog_1_method_17_code 22 = .ok (.tableswitch 84 0 4 #[34, 44, 54, 64, 74], 34) := by decide +kernel
theorem d_Q_map_56 : decode prog_1_method_17_code 56 = .ok (.aload 4, 2) := by decide +kernel
theorem d_Q_map_58 : decode prog_1_method_17_code 58 = .ok (.getfield 55, 3) := by decide +kernel
theorem d_Q_map_61 : decode prog_1_method_17_code 61 = .ok (.iload_n 2, 1) := by decide +kernel
theorem d_Q_map_62 : decode prog_1_method_17_code 62 = .ok (.invokevirtual 228, 3) := by decide +kernel
theorem d_Q_map_65 : decode prog_1_method_17_code 65 = .ok (.ireturn, 1) := by decide +kernel
theorem d_Q_map_66 : decode prog_1_method_17_code 66 = .ok (.aload 4, 2) := by decide +kernel
theorem d_Q_map_68 : decode prog_1_method_17_code 68 = .ok (.getfield 55, 3) := by decide +kernel
theorem d_Q_map_71 : decode prog_1_method_17_code 71 = .ok (.iload_n 2, 1) := by decide +kernel
theorem d_Q_map_72 : decode prog_1_method_17_code 72 = .ok (.invokevirtual 231, 3) := by decide +kernel
theorem d_Q_map_75 : decode prog_1_method_17_code 75 = .ok (.ireturn, 1) := by decide +kernel
theorem d_Q_map_76 : decode prog_1_method_17_code 76 = .ok (.aload 4, 2) := by decide +kernel
theorem d_Q_map_78 : decode prog_1_method_17_code 78 = .ok (.getfield 234, 3) := by decide +kernel
theorem d_Q_map_81 : decode prog_1_method_17_code 81 = .ok (.iload_n 2, 1) := by decide +kernel
theorem d_Q_map_82 : decode prog_1_method_17_code 82 = .ok (.invokevirtual 238, 3) := by decide +kernel
theorem d_Q_map_85 : decode prog_1_method_17_code 85 = .ok (.ireturn, 1) := by decide +kernel
theorem d_Q_map_86 : decode prog_1_method_17_code 86 = .ok (.aload 4, 2) := by decide +kernel
theorem d_Q_map_88 : decode prog_1_method_17_code 88 = .ok (.getfield 234, 3) := by decide +kernel
theorem d_Q_map_91 : decode prog_1_method_17_code 91 = .ok (.iload_n 2, 1) := by decide +kernel
theorem d_Q_map_92 : decode prog_1_method_17_code 92 = .ok (.invokevirtual 243, 3) := by decide +kernel
theorem d_Q_map_95 : decode prog_1_method_17_code 95 = .ok (.ireturn, 1) := by decide +kernel
theorem d_Q_map_96 : decode prog_1_method_17_code 96 = .ok (.aload 4, 2) := by decide +kernel
theorem d_Q_map_98 : decode prog_1_method_17_code 98 = .ok (.getfield 234, 3) := by decide +kernel
theorem d_Q_map_101 : decode prog_1_method_17_code 101 = .ok (.iload_n 2, 1) := by decide +kernel
theorem d_Q_map_102 : decode prog_1_method_17_code 102 = .ok (.invokevirtual 246, 3) := by decide +kernel
theorem d_Q_map_105 : decode prog_1_method_17_code 105 = .ok (.ireturn, 1) := by decide +kernel
theorem d_Q_map_106 : decode prog_1_method_17_code 106 = .ok (.iconst (-1), 1) := by decide +kernel
theorem d_Q_map_107 : decode prog_1_method_17_code 107 = .ok (.ireturn, 1) := by decide +kernel
theorem d_Q_task_0 : decode prog_1_method_18_code 0 = .ok (.aload_n 0, 1) := by decide +kernel
theorem d_Q_task_1 : decode prog_1_method_18_code 1 = .ok (.iload_n 1, 1) := by decide +kernel
theorem d_Q_task_2 : decode prog_1_method_18_code 2 = .ok (.invokevirtual 93, 3) := by decide +kernel
theorem d_Q_task_5 : decode prog_1_method_18_code 5 = .ok (.astore_n 3, 1) := by decide +kernel
theorem d_Q_task_6 : decode prog_1_method_18_code 6 = .ok (.aload_n 3, 1) := by decide +kernel
theorem d_Q_task_7 : decode prog_1_method_18_code 7 = .ok (.ifnull 20, 3) := by decide +kernel
theorem d_Q_task_10 : decode prog_1_method_18_code 10 = .ok (.aload_n 3, 1) := by decide +kernel
theorem d_Q_task_11 : decode prog_1_method_18_code 11 = .ok (.invokevirtual 129, 3) := by decide +kernel
theorem d_Q_task_14 : decode prog_1_method_18_code 14 = .ok (.ifCond .eq 13, 3) := by decide +kernel
theorem d_Q_task_17 : decode prog_1_method_18_code 17 = .ok (.aload_n 3, 1) := by decide +kernel
theorem d_Q_task_18 : decode prog_1_method_18_code 18 = .ok (.getfield 84, 3) := by decide +kernel
theorem d_Q_task_21 : decode prog_1_method_18_code 21 = .ok (.getfield 249, 3) := by decide +kernel
theorem d_Q_task_24 : decode prog_1_method_18_code 24 = .ok (.ifCond .ne 5, 3) := by decide +kernel
theorem d_Q_task_27 : decode prog_1_method_18_code 27 = .ok (.iconst (-1), 1) := by decide +kernel
theorem d_Q_task_28 : decode prog_1_method_18_code 28 = .ok (.ireturn, 1) := by decide +kernel
theorem d_Q_task_29 : decode prog_1_method_18_code 29 = .ok (.aload_n 3, 1) := by decide +kernel
theorem d_Q_task_30 : decode prog_1_method_18_code 30 = .ok (.getfield 84, 3) := by decide +kernel
theorem d_Q_task_33 : decode prog_1_method_18_code 33 = .ok (.astore 4, 2) := by decide +kernel
theorem d_Q_task_35 : decode prog_1_method_18_code 35 = .ok (.iload_n 2, 1) := by decide +kernel
theorem d_Q_task_36 : decode prog_1_method_18_code 36 = .ok (.tableswitch 156 0 9 #[56, 62, 68, 74, 80, 86, 92, 98, 124, 150], 56) := by decide +kernel
theorem d_Q_task_92 : decode prog_1_method_18_code 92 = .ok (.aload 4, 2) := by decide +kernel
theorem d_Q_task_94 : decode prog_1_method_18_code 94 = .ok (.getfield 249, 3) := by decide +kernel
theorem d_Q_task_97 : decode prog_1_method_18_code 97 = .ok (.ireturn, 1) := by decide +kernel
theorem d_Q_task_98 : decode prog_1_method_18_code 98 = .ok (.aload 4, 2) := by decide +kernel
theorem d_Q_task_100 : decode prog_1_method_18_code 100 = .ok (.getfield 123, 3) := by decide +kernel
theorem d_Q_task_103 : decode prog_1_method_18_code 103 = .ok (.ireturn, 1) := by decide +kernel
theorem d_Q_task_104 : decode prog_1_method_18_code 104 = .ok (.aload 4, 2) := by decide +kernel
theorem d_Q_task_106 : decode prog_1_method_18_code 106 = .ok (.getfield 252, 3) := by decide +kernel
theorem d_Q_task_109 : decode prog_1_method_18_code 109 = .ok (.ireturn, 1) := by decide +kernel
theorem d_Q_task_110 : decode prog_1_method_18_code 110 = .ok (.aload 4, 2) := by decide +kernel
theorem d_Q_task_112 : decode prog_1_method_18_code 112 = .ok (.getfield 255, 3) := by decide +kernel
theorem d_Q_task_115 : decode prog_1_method_18_code 115 = .ok (.ireturn, 1) := by decide +kernel
theorem d_Q_task_116 : decode prog_1_method_18_code 116 = .ok (.aload 4, 2) := by decide +kernel
theorem d_Q_task_118 : decode prog_1_method_18_code 118 = .ok (.getfield 258, 3) := by decide +kernel
theorem d_Q_task_121 : decode prog_1_method_18_code 121 = .ok (.ireturn, 1) := by decide +kernel
theorem d_Q_task_122 : decode prog_1_method_18_code 122 = .ok (.aload 4, 2) := by decide +kernel
theorem d_Q_task_124 : decode prog_1_method_18_code 124 = .ok (.getfield 132, 3) := by decide +kernel
theorem d_Q_task_127 : decode prog_1_method_18_code 127 = .ok (.ireturn, 1) := by decide +kernel
theorem d_Q_task_128 : decode prog_1_method_18_code 128 = .ok (.aload 4, 2) := by decide +kernel
theorem d_Q_task_130 : decode prog_1_method_18_code 130 = .ok (.getfield 135, 3) := by decide +kernel
theorem d_Q_task_133 : decode prog_1_method_18_code 133 = .ok (.ireturn, 1) := by decide +kernel
theorem d_Q_task_134 : decode prog_1_method_18_code 134 = .ok (.aload 4, 2) := by decide +kernel
theorem d_Q_task_136 : decode prog_1_method_18_code 136 = .ok (.invokevirtual 261, 3) := by decide +kernel
theorem d_Q_task_139 : decode prog_1_method_18_code 139 = .ok (.ifCond .eq 19, 3) := by decide +kernel
theorem d_Q_task_142 : decode prog_1_method_18_code 142 = .ok (.aload 4, 2) := by decide +kernel
theorem d_Q_task_144 : decode prog_1_method_18_code 144 = .ok (.getfield 264, 3) := by decide +kernel
theorem d_Q_task_147 : decode prog_1_method_18_code 147 = .ok (.aload 4, 2) := by decide +kernel
theorem d_Q_task_149 : decode prog_1_method_18_code 149 = .ok (.getfield 255, 3) := by decide +kernel
theorem d_Q_task_152 : decode prog_1_method_18_code 152 = .ok (.invokevirtual 216, 3) := by decide +kernel
theorem d_Q_task_155 : decode prog_1_method_18_code 155 = .ok (.goto 4, 3) := by decide +kernel
theorem d_Q_task_158 : decode prog_1_method_18_code 158 = .ok (.iconst 0, 1) := by decide +kernel
theorem d_Q_task_159 : decode prog_1_method_18_code 159 = .ok (.ireturn, 1) := by decide +kernel
theorem d_Q_task_160 : decode prog_1_method_18_code 160 = .ok (.aload 4, 2) := by decide +kernel
theorem d_Q_task_162 : decode prog_1_method_18_code 162 = .ok (.invokevirtual 261, 3) := by decide +kernel
theorem d_Q_task_165 : decode prog_1_method_18_code 165 = .ok (.ifCond .eq 19, 3) := by decide +kernel
theorem d_Q_task_168 : decode prog_1_method_18_code 168 = .ok (.aload 4, 2) := by decide +kernel
theorem d_Q_task_170 : decode prog_1_method_18_code 170 = .ok (.getfield 264, 3) := by decide +kernel
theorem d_Q_task_173 : decode prog_1_method_18_code 173 = .ok (.aload 4, 2) := by decide +kernel
theorem d_Q_task_175 : decode prog_1_method_18_code 175 = .ok (.getfield 255, 3) := by decide +kernel
theorem d_Q_task_178 : decode prog_1_method_18_code 178 = .ok (.invokevirtual 219, 3) := by decide +kernel
theorem d_Q_task_181 : decode prog_1_method_18_code 181 = .ok (.goto 4, 3) := by decide +kernel
theorem d_Q_task_184 : decode prog_1_method_18_code 184 = .ok (.iconst 0, 1) := by decide +kernel
theorem d_Q_task_185 : decode prog_1_method_18_code 185 = .ok (.ireturn, 1) := by decide +kernel
theorem d_Q_task_186 : decode prog_1_method_18_code 186 = .ok (.aload 4, 2) := by decide +kernel
theorem d_Q_task_188 : decode prog_1_method_18_code 188 = .ok (.getfield 267, 3) := by decide +kernel
theorem d_Q_task_191 : decode prog_1_method_18_code 191 = .ok (.ireturn, 1) := by decide +kernel
theorem d_Q_task_192 : decode prog_1_method_18_code 192 = .ok (.iconst (-1), 1) := by decide +kernel
theorem d_Q_task_193 : decode prog_1_method_18_code 193 = .ok (.ireturn, 1) := by decide +kernel
theorem d_Q_message_0 : decode prog_1_method_19_code 0 = .ok (.aload_n 0, 1) := by decide +kernel
theorem d_Q_message_1 : decode prog_1_method_19_code 1 = .ok (.getfield 18, 3) := by decide +kernel
theorem d_Q_message_4 : decode prog_1_method_19_code 4 = .ok (.iload_n 1, 1) := by decide +kernel
theorem d_Q_message_5 : decode prog_1_method_19_code 5 = .ok (.invokevirtual 189, 3) := by decide +kernel
theorem d_Q_message_8 : decode prog_1_method_19_code 8 = .ok (.astore_n 3, 1) := by decide +kernel
theorem d_Q_message_9 : decode prog_1_method_19_code 9 = .ok (.aload_n 3, 1) := by decide +kernel
theorem d_Q_message_10 : decode prog_1_method_19_code 10 = .ok (.ifnonnull 5, 3) := by decide +kernel
theorem d_Q_message_13 : decode prog_1_method_19_code 13 = .ok (.iconst (-1), 1) := by decide +kernel
theorem d_Q_message_14 : decode prog_1_method_19_code 14 = .ok (.ireturn, 1) := by decide +kernel
theorem d_Q_message_15 : decode prog_1_method_19_code 15 = .ok (.iload_n 2, 1) := by decide +kernel
theorem d_Q_message_16 : decode prog_1_method_19_code 16 = .ok (.tableswitch 173 0 9 #[56, 61, 66, 71, 76, 81, 86, 112, 138, 161], 56) := by decide +kernel
theorem d_Q_message_72 : decode prog_1_method_19_code 72 = .ok (.aload_n 3, 1) := by decide +kernel
theorem d_Q_message_73 : decode prog_1_method_19_code 73 = .ok (.getfield 175, 3) := by decide +kernel
theorem d_Q_message_76 : decode prog_1_method_19_code 76 = .ok (.ireturn, 1) := by decide +kernel
theorem d_Q_message_77 : decode prog_1_method_19_code 77 = .ok (.aload_n 3, 1) := by decide +kernel
theorem d_Q_message_78 : decode prog_1_method_19_code 78 = .ok (.getfield 270, 3) := by decide +kernel
theorem d_Q_message_81 : decode prog_1_method_19_code 81 = .ok (.ireturn, 1) := by decide +kernel
theorem d_Q_message_82 : decode prog_1_method_19_code 82 = .ok (.aload_n 3, 1) := by decide +kernel
theorem d_Q_message_83 : decode prog_1_method_19_code 83 = .ok (.getfield 163, 3) := by decide +kernel
theorem d_Q_message_86 : decode prog_1_method_19_code 86 = .ok (.ireturn, 1) := by decide +kernel
theorem d_Q_message_87 : decode prog_1_method_19_code 87 = .ok (.aload_n 3, 1) := by decide +kernel
theorem d_Q_message_88 : decode prog_1_method_19_code 88 = .ok (.getfield 273, 3) := by decide +kernel
theorem d_Q_message_91 : decode prog_1_method_19_code 91 = .ok (.ireturn, 1) := by decide +kernel
theorem d_Q_message_92 : decode prog_1_method_19_code 92 = .ok (.aload_n 3, 1) := by decide +kernel
theorem d_Q_message_93 : decode prog_1_method_19_code 93 = .ok (.getfield 274, 3) := by decide +kernel
theorem d_Q_message_96 : decode prog_1_method_19_code 96 = .ok (.ireturn, 1) := by decide +kernel
theorem d_Q_message_97 : decode prog_1_method_19_code 97 = .ok (.aload_n 3, 1) := by decide +kernel
theorem d_Q_message_98 : decode prog_1_method_19_code 98 = .ok (.getfield 275, 3) := by decide +kernel
theorem d_Q_message_101 : decode prog_1_method_19_code 101 = .ok (.ireturn, 1) := by decide +kernel
theorem d_Q_message_102 : decode prog_1_method_19_code 102 = .ok (.aload_n 3, 1) := by decide +kernel
theorem d_Q_message_103 : decode prog_1_method_19_code 103 = .ok (.invokevirtual 276, 3) := by decide +kernel
theorem d_Q_message_106 : decode prog_1_method_19_code 106 = .ok (.ifCond .eq 17, 3) := by decide +kernel
theorem d_Q_message_109 : decode prog_1_method_19_code 109 = .ok (.aload_n 3, 1) := by decide +kernel
theorem d_Q_message_110 : decode prog_1_method_19_code 110 = .ok (.getfield 142, 3) := by decide +kernel
theorem d_Q_message_113 : decode prog_1_method_19_code 113 = .ok (.aload_n 3, 1) := by decide +kernel
theorem d_Q_message_114 : decode prog_1_method_19_code 114 = .ok (.getfield 275, 3) := by decide +kernel
theorem d_Q_message_117 : decode prog_1_method_19_code 117 = .ok (.invokevirtual 216, 3) := by decide +kernel
theorem d_Q_message_120 : decode prog_1_method_19_code 120 = .ok (.goto 7, 3) := by decide +kernel
theorem d_Q_message_123 : decode prog_1_method_19_code 123 = .ok (.aload_n 3, 1) := by decide +kernel
theorem d_Q_message_124 : decode prog_1_method_19_code 124 = .ok (.getfield 279, 3) := by decide +kernel
theorem d_Q_message_127 : decode prog_1_method_19_code 127 = .ok (.ireturn, 1) := by decide +kernel
theorem d_Q_message_128 : decode prog_1_method_19_code 128 = .ok (.aload_n 3, 1) := by decide +kernel
theorem d_Q_message_129 : decode prog_1_method_19_code 129 = .ok (.invokevirtual 276, 3) := by decide +kernel
theorem d_Q_message_132 : decode prog_1_method_19_code 132 = .ok (.ifCond .eq 17, 3) := by decide +kernel
theorem d_Q_message_135 : decode prog_1_method_19_code 135 = .ok (.aload_n 3, 1) := by decide +kernel
theorem d_Q_message_136 : decode prog_1_method_19_code 136 = .ok (.getfield 142, 3) := by decide +kernel
theorem d_Q_message_139 : decode prog_1_method_19_code 139 = .ok (.aload_n 3, 1) := by decide +kernel
theorem d_Q_message_140 : decode prog_1_method_19_code 140 = .ok (.getfield 275, 3) := by decide +kernel
theorem d_Q_message_143 : decode prog_1_method_19_code 143 = .ok (.invokevirtual 219, 3) := by decide +kernel
theorem d_Q_message_146 : decode prog_1_method_19_code 146 = .ok (.goto 7, 3) := by decide +kernel
theorem d_Q_message_149 : decode prog_1_method_19_code 149 = .ok (.aload_n 3, 1) := by decide +kernel
theorem d_Q_message_150 : decode prog_1_method_19_code 150 = .ok (.getfield 280, 3) := by decide +kernel
theorem d_Q_message_153 : decode prog_1_method_19_code 153 = .ok (.ireturn, 1) := by decide +kernel
theorem d_Q_message_154 : decode prog_1_method_19_code 154 = .ok (.aload_n 3, 1) := by decide +kernel
theorem d_Q_message_155 : decode prog_1_method_19_code 155 = .ok (.invokevirtual 276, 3) := by decide +kernel
theorem d_Q_message_158 : decode prog_1_method_19_code 158 = .ok (.ifCond .eq 17, 3) := by decide +kernel
theorem d_Q_message_161 : decode prog_1_method_19_code 161 = .ok (.aload_n 3, 1) := by decide +kernel
theorem d_Q_message_162 : decode prog_1_method_19_code 162 = .ok (.getfield 142, 3) := by decide +kernel
theorem d_Q_message_165 : decode prog_1_method_19_code 165 = .ok (.aload_n 3, 1) := by decide +kernel
theorem d_Q_message_166 : decode prog_1_method_19_code 166 = .ok (.getfield 275, 3) := by decide +kernel
theorem d_Q_message_169 : decode prog_1_method_19_code 169 = .ok (.invokevirtual 222, 3) := by decide +kernel
theorem d_Q_message_172 : decode prog_1_method_19_code 172 = .ok (.goto 4, 3) := by decide +kernel
theorem d_Q_message_175 : decode prog_1_method_19_code 175 = .ok (.iconst 0, 1) := by decide +kernel
theorem d_Q_message_176 : decode prog_1_method_19_code 176 = .ok (.ireturn, 1) := by decide +kernel
theorem d_Q_message_177 : decode prog_1_method_19_code 177 = .ok (.aload_n 3, 1) := by decide +kernel
theorem d_Q_message_178 : decode prog_1_method_19_code 178 = .ok (.getfield 166, 3) := by decide +kernel
theorem d_Q_message_181 : decode prog_1_method_19_code 181 = .ok (.iconst 1, 1) := by decide +kernel
theorem d_Q_message_182 : decode prog_1_method_19_code 182 = .ok (.invokevirtual 101, 3) := by decide +kernel
theorem d_Q_message_185 : decode prog_1_method_19_code 185 = .ok (.invokestatic 105, 3) := by decide +kernel
theorem d_Q_message_188 : decode prog_1_method_19_code 188 = .ok (.ireturn, 1) := by decide +kernel
theorem d_Q_message_189 : decode prog_1_method_19_code 189 = .ok (.iconst (-1), 1) := by decide +kernel
theorem d_Q_message_190 : decode prog_1_method_19_code 190 = .ok (.ireturn, 1) := by decide +kernel
theorem d_Q_count_0 : decode prog_1_method_20_code 0 = .ok (.iload_n 1, 1) := by decide +kernel
theorem d_Q_count_1 : decode prog_1_method_20_code 1 = .ok (.tableswitch 66 0 4 #[35, 43, 48, 53, 58], 35) := by decide +kernel
theorem d_Q_count_36 : decode prog_1_method_20_code 36 = .ok (.aload_n 0, 1) := by decide +kernel
theorem d_Q_count_37 : decode prog_1_method_20_code 37 = .ok (.getfield 18, 3) := by decide +kernel
theorem d_Q_count_40 : decode prog_1_method_20_code 40 = .ok (.getfield 192, 3) := by decide +kernel
theorem d_Q_count_43 : decode prog_1_method_20_code 43 = .ok (.ireturn, 1) := by decide +kernel
theorem d_Q_count_44 : decode prog_1_method_20_code 44 = .ok (.aload_n 0, 1) := by decide +kernel
theorem d_Q_count_45 : decode prog_1_method_20_code 45 = .ok (.getfield 32, 3) := by decide +kernel
theorem d_Q_count_48 : decode prog_1_method_20_code 48 = .ok (.ireturn, 1) := by decide +kernel
theorem d_Q_count_49 : decode prog_1_method_20_code 49 = .ok (.aload_n 0, 1) := by decide +kernel
theorem d_Q_count_50 : decode prog_1_method_20_code 50 = .ok (.invokevirtual 282, 3) := by decide +kernel
theorem d_Q_count_53 : decode prog_1_method_20_code 53 = .ok (.ireturn, 1) := by decide +kernel
theorem d_Q_count_54 : decode prog_1_method_20_code 54 = .ok (.aload_n 0, 1) := by decide +kernel
theorem d_Q_count_55 : decode prog_1_method_20_code 55 = .ok (.invokevirtual 286, 3) := by decide +kernel
theorem d_Q_count_58 : decode prog_1_method_20_code 58 = .ok (.ireturn, 1) := by decide +kernel
theorem d_Q_count_59 : decode prog_1_method_20_code 59 = .ok (.aload_n 0, 1) := by decide +kernel
theorem d_Q_count_60 : decode prog_1_method_20_code 60 = .ok (.getfield 18, 3) := by decide +kernel
theorem d_Q_count_63 : decode prog_1_method_20_code 63 = .ok (.getfield 289, 3) := by decide +kernel
theorem d_Q_count_66 : decode prog_1_method_20_code 66 = .ok (.ireturn, 1) := by decide +kernel
theorem d_Q_count_67 : decode prog_1_method_20_code 67 = .ok (.iconst (-1), 1) := by decide +kernel
theorem d_Q_count_68 : decode prog_1_method_20_code 68 = .ok (.ireturn, 1) := by decide +kernel
theorem d_Q_writesOfAll_0 : decode prog_1_method_21_code 0 = .ok (.iconst 0, 1) := by decide +kernel
theorem d_Q_writesOfAll_1 : decode prog_1_method_21_code 1 = .ok (.istore_n 1, 1) := by decide +kernel
theorem d_Q_writesOfAll_2 : decode prog_1_method_21_code 2 = .ok (.iconst 0, 1) := by decide +kernel
theorem d_Q_writesOfAll_3 : decode prog_1_method_21_code 3 = .ok (.istore_n 2, 1) := by decide +kernel
theorem d_Q_writesOfAll_4 : decode prog_1_method_21_code 4 = .ok (.iload_n 2, 1) := by decide +kernel
theorem d_Q_writesOfAll_5 : decode prog_1_method_21_code 5 = .ok (.bipush 8, 2) := by decide +kernel
theorem d_Q_writesOfAll_7 : decode prog_1_method_21_code 7 = .ok (.if_icmp .ge 21, 3) := by decide +kernel
theorem d_Q_writesOfAll_10 : decode prog_1_method_21_code 10 = .ok (.iload_n 1, 1) := by decide +kernel
theorem d_Q_writesOfAll_11 : decode prog_1_method_21_code 11 = .ok (.aload_n 0, 1) := by decide +kernel
theorem d_Q_writesOfAll_12 : decode prog_1_method_21_code 12 = .ok (.getfield 11, 3) := by decide +kernel
theorem d_Q_writesOfAll_15 : decode prog_1_method_21_code 15 = .ok (.iload_n 2, 1) := by decide +kernel
theorem d_Q_writesOfAll_16 : decode prog_1_method_21_code 16 = .ok (.aaload, 1) := by decide +kernel
theorem d_Q_writesOfAll_17 : decode prog_1_method_21_code 17 = .ok (.getfield 292, 3) := by decide +kernel
theorem d_Q_writesOfAll_20 : decode prog_1_method_21_code 20 = .ok (.iadd, 1) := by decide +kernel
theorem d_Q_writesOfAll_21 : decode prog_1_method_21_code 21 = .ok (.istore_n 1, 1) := by decide +kernel
theorem d_Q_writesOfAll_22 : decode prog_1_method_21_code 22 = .ok (.iinc 2 1, 3) := by decide +kernel
theorem d_Q_writesOfAll_25 : decode prog_1_method_21_code 25 = .ok (.goto (-21), 3) := by decide +kernel
theorem d_Q_writesOfAll_28 : decode prog_1_method_21_code 28 = .ok (.iload_n 1, 1) := by decide +kernel
theorem d_Q_writesOfAll_29 : decode prog_1_method_21_code 29 = .ok (.ireturn, 1) := by decide +kernel
theorem d_Q_nodesUp_0 : decode prog_1_method_22_code 0 = .ok (.iconst 0, 1) := by decide +kernel
theorem d_Q_nodesUp_1 : decode prog_1_method_22_code 1 = .ok (.istore_n 1, 1) := by decide +kernel
theorem d_Q_nodesUp_2 : decode prog_1_method_22_code 2 = .ok (.iconst 0, 1) := by decide +kernel
theorem d_Q_nodesUp_3 : decode prog_1_method_22_code 3 = .ok (.istore_n 2, 1) := by decide +kernel
theorem d_Q_nodesUp_4 : decode prog_1_method_22_code 4 = .ok (.iload_n 2, 1) := by decide +kernel
theorem d_Q_nodesUp_5 : decode prog_1_method_22_code 5 = .ok (.bipush 8, 2) := by decide +kernel
theorem d_Q_nodesUp_7 : decode prog_1_method_22_code 7 = .ok (.if_icmp .ge 29, 3) := by decide +kernel
theorem d_Q_nodesUp_10 : decode prog_1_method_22_code 10 = .ok (.iload_n 1, 1) := by decide +kernel
theorem d_Q_nodesUp_11 : decode prog_1_method_22_code 11 = .ok (.aload_n 0, 1) := by decide +kernel
theorem d_Q_nodesUp_12 : decode prog_1_method_22_code 12 = .ok (.getfield 11, 3) := by decide +kernel
theorem d_Q_nodesUp_15 : decode prog_1_method_22_code 15 = .ok (.iload_n 2, 1) := by decide +kernel
theorem d_Q_nodesUp_16 : decode prog_1_method_22_code 16 = .ok (.aaload, 1) := by decide +kernel
theorem d_Q_nodesUp_17 : decode prog_1_method_22_code 17 = .ok (.invokevirtual 129, 3) := by decide +kernel
theorem d_Q_nodesUp_20 : decode prog_1_method_22_code 20 = .ok (.ifCond .eq 7, 3) := by decide +kernel
theorem d_Q_nodesUp_23 : decode prog_1_method_22_code 23 = .ok (.iconst 1, 1) := by decide +kernel
theorem d_Q_nodesUp_24 : decode prog_1_method_22_code 24 = .ok (.goto 4, 3) := by decide +kernel
theorem d_Q_nodesUp_27 : decode prog_1_method_22_code 27 = .ok (.iconst 0, 1) := by decide +kernel
theorem d_Q_nodesUp_28 : decode prog_1_method_22_code 28 = .ok (.iadd, 1) := by decide +kernel
theorem d_Q_nodesUp_29 : decode prog_1_method_22_code 29 = .ok (.istore_n 1, 1) := by decide +kernel
theorem d_Q_nodesUp_30 : decode prog_1_method_22_code 30 = .ok (.iinc 2 1, 3) := by decide +kernel
theorem d_Q_nodesUp_33 : decode prog_1_method_22_code 33 = .ok (.goto (-29), 3) := by decide +kernel
theorem d_Q_nodesUp_36 : decode prog_1_method_22_code 36 = .ok (.iload_n 1, 1) := by decide +kernel
theorem d_Q_nodesUp_37 : decode prog_1_method_22_code 37 = .ok (.ireturn, 1) := by decide +kernel
theorem d_Q_find_0 : decode prog_1_method_23_code 0 = .ok (.iload_n 1, 1) := by decide +kernel
theorem d_Q_find_1 : decode prog_1_method_23_code 1 = .ok (.ifCond .lt 18, 3) := by decide +kernel
theorem d_Q_find_4 : decode prog_1_method_23_code 4 = .ok (.iload_n 1, 1) := by decide +kernel
theorem d_Q_find_5 : decode prog_1_method_23_code 5 = .ok (.bipush 8, 2) := by decide +kernel
theorem d_Q_find_7 : decode prog_1_method_23_code 7 = .ok (.if_icmp .ge 12, 3) := by decide +kernel
theorem d_Q_find_10 : decode prog_1_method_23_code 10 = .ok (.aload_n 0, 1) := by decide +kernel
theorem d_Q_find_11 : decode prog_1_method_23_code 11 = .ok (.getfield 11, 3) := by decide +kernel
theorem d_Q_find_14 : decode prog_1_method_23_code 14 = .ok (.iload_n 1, 1) := by decide +kernel
theorem d_Q_find_15 : decode prog_1_method_23_code 15 = .ok (.aaload, 1) := by decide +kernel
theorem d_Q_find_16 : decode prog_1_method_23_code 16 = .ok (.goto 4, 3) := by decide +kernel
theorem d_Q_find_19 : decode prog_1_method_23_code 19 = .ok (.aconst_null, 1) := by decide +kernel
theorem d_Q_find_20 : decode prog_1_method_23_code 20 = .ok (.areturn, 1) := by decide +kernel
theorem d_Q_isObject_0 : decode prog_1_method_24_code 0 = .ok (.iload_n 0, 1) := by decide +kernel
theorem d_Q_isObject_1 : decode prog_1_method_24_code 1 = .ok (.ifCond .lt 12, 3) := by decide +kernel
theorem d_Q_isObject_4 : decode prog_1_method_24_code 4 = .ok (.iload_n 0, 1) := by decide +kernel
theorem d_Q_isObject_5 : decode prog_1_method_24_code 5 = .ok (.iconst 4, 1) := by decide +kernel
theorem d_Q_isObject_6 : decode prog_1_method_24_code 6 = .ok (.if_icmp .ge 7, 3) := by decide +kernel
theorem d_Q_isObject_9 : decode prog_1_method_24_code 9 = .ok (.iconst 1, 1) := by decide +kernel
theorem d_Q_isObject_10 : decode prog_1_method_24_code 10 = .ok (.goto 4, 3) := by decide +kernel
theorem d_Q_isObject_13 : decode prog_1_method_24_code 13 = .ok (.iconst 0, 1) := by decide +kernel
theorem d_Q_isObject_14 : decode prog_1_method_24_code 14 = .ok (.ireturn, 1) := by decide +kernel
theorem d_Q_isIndex_0 : decode prog_1_method_25_code 0 = .ok (.iload_n 0, 1) := by decide +kernel
theorem d_Q_isIndex_1 : decode prog_1_method_25_code 1 = .ok (.ifCond .lt 13, 3) := by decide +kernel
theorem d_Q_isIndex_4 : decode prog_1_method_25_code 4 = .ok (.iload_n 0, 1) := by decide +kernel
theorem d_Q_isIndex_5 : decode prog_1_method_25_code 5 = .ok (.bipush 16, 2) := by decide +kernel
theorem d_Q_isIndex_7 : decode prog_1_method_25_code 7 = .ok (.if_icmp .ge 7, 3) := by decide +kernel
theorem d_Q_isIndex_10 : decode prog_1_method_25_code 10 = .ok (.iconst 1, 1) := by decide +kernel
theorem d_Q_isIndex_11 : decode prog_1_method_25_code 11 = .ok (.goto 4, 3) := by decide +kernel
theorem d_Q_isIndex_14 : decode prog_1_method_25_code 14 = .ok (.iconst 0, 1) := by decide +kernel
theorem d_Q_isIndex_15 : decode prog_1_method_25_code 15 = .ok (.ireturn, 1) := by decide +kernel
theorem d_Q_nearest_0 : decode prog_1_method_26_code 0 = .ok (.iconst 1, 1) := by decide +kernel
theorem d_Q_nearest_1 : decode prog_1_method_26_code 1 = .ok (.iload_n 0, 1) := by decide +kernel
theorem d_Q_nearest_2 : decode prog_1_method_26_code 2 = .ok (.iload_n 1, 1) := by decide +kernel
theorem d_Q_nearest_3 : decode prog_1_method_26_code 3 = .ok (.invokestatic 295, 3) := by decide +kernel
theorem d_Q_nearest_6 : decode prog_1_method_26_code 6 = .ok (.invokestatic 40, 3) := by decide +kernel
theorem d_Q_nearest_9 : decode prog_1_method_26_code 9 = .ok (.ireturn, 1) := by decide +kernel
theorem d_Q_isIn_0 : decode prog_1_method_27_code 0 = .ok (.iload_n 0, 1) := by decide +kernel
theorem d_Q_isIn_1 : decode prog_1_method_27_code 1 = .ok (.iload_n 1, 1) := by decide +kernel
theorem d_Q_isIn_2 : decode prog_1_method_27_code 2 = .ok (.ishr, 1) := by decide +kernel
theorem d_Q_isIn_3 : decode prog_1_method_27_code 3 = .ok (.iconst 1, 1) := by decide +kernel
theorem d_Q_isIn_4 : decode prog_1_method_27_code 4 = .ok (.iand, 1) := by decide +kernel
theorem d_Q_isIn_5 : decode prog_1_method_27_code 5 = .ok (.ifCond .eq 7, 3) := by decide +kernel
theorem d_Q_isIn_8 : decode prog_1_method_27_code 8 = .ok (.iconst 1, 1) := by decide +kernel
theorem d_Q_isIn_9 : decode prog_1_method_27_code 9 = .ok (.goto 4, 3) := by decide +kernel
theorem d_Q_isIn_12 : decode prog_1_method_27_code 12 = .ok (.iconst 0, 1) := by decide +kernel
theorem d_Q_isIn_13 : decode prog_1_method_27_code 13 = .ok (.ireturn, 1) := by decide +kernel
theorem d_Q_least_0 : decode prog_1_method_28_code 0 = .ok (.iconst 0, 1) := by decide +kernel
theorem d_Q_least_1 : decode prog_1_method_28_code 1 = .ok (.istore_n 1, 1) := by decide +kernel
theorem d_Q_least_2 : decode prog_1_method_28_code 2 = .ok (.iload_n 1, 1) := by decide +kernel
theorem d_Q_least_3 : decode prog_1_method_28_code 3 = .ok (.bipush 16, 2) := by decide +kernel
theorem d_Q_least_5 : decode prog_1_method_28_code 5 = .ok (.if_icmp .ge 19, 3) := by decide +kernel
theorem d_Q_least_8 : decode prog_1_method_28_code 8 = .ok (.iload_n 0, 1) := by decide +kernel
theorem d_Q_least_9 : decode prog_1_method_28_code 9 = .ok (.iload_n 1, 1) := by decide +kernel
theorem d_Q_least_10 : decode prog_1_method_28_code 10 = .ok (.invokestatic 298, 3) := by decide +kernel
theorem d_Q_least_13 : decode prog_1_method_28_code 13 = .ok (.ifCond .eq 5, 3) := by decide +kernel
theorem d_Q_least_16 : decode prog_1_method_28_code 16 = .ok (.iload_n 1, 1) := by decide +kernel
theorem d_Q_least_17 : decode prog_1_method_28_code 17 = .ok (.ireturn, 1) := by decide +kernel
theorem d_Q_least_18 : decode prog_1_method_28_code 18 = .ok (.iinc 1 1, 3) := by decide +kernel
theorem d_Q_least_21 : decode prog_1_method_28_code 21 = .ok (.goto (-19), 3) := by decide +kernel
theorem d_Q_least_24 : decode prog_1_method_28_code 24 = .ok (.iconst (-1), 1) := by decide +kernel
theorem d_Q_least_25 : decode prog_1_method_28_code 25 = .ok (.ireturn, 1) := by decide +kernel
theorem d_Q_greatest_0 : decode prog_1_method_29_code 0 = .ok (.bipush 15, 2) := by decide +kernel
theorem d_Q_greatest_2 : decode prog_1_method_29_code 2 = .ok (.istore_n 1, 1) := by decide +kernel
theorem d_Q_greatest_3 : decode prog_1_method_29_code 3 = .ok (.iload_n 1, 1) := by decide +kernel
theorem d_Q_greatest_4 : decode prog_1_method_29_code 4 = .ok (.ifCond .lt 19, 3) := by decide +kernel
theorem d_Q_greatest_7 : decode prog_1_method_29_code 7 = .ok (.iload_n 0, 1) := by decide +kernel
theorem d_Q_greatest_8 : decode prog_1_method_29_code 8 = .ok (.iload_n 1, 1) := by decide +kernel
theorem d_Q_greatest_9 : decode prog_1_method_29_code 9 = .ok (.invokestatic 298, 3) := by decide +kernel
theorem d_Q_greatest_12 : decode prog_1_method_29_code 12 = .ok (.ifCond .eq 5, 3) := by decide +kernel
theorem d_Q_greatest_15 : decode prog_1_method_29_code 15 = .ok (.iload_n 1, 1) := by decide +kernel
theorem d_Q_greatest_16 : decode prog_1_method_29_code 16 = .ok (.ireturn, 1) := by decide +kernel
theorem d_Q_greatest_17 : decode prog_1_method_29_code 17 = .ok (.iinc 1 (-1), 3) := by decide +kernel
theorem d_Q_greatest_20 : decode prog_1_method_29_code 20 = .ok (.goto (-17), 3) := by decide +kernel
theorem d_Q_greatest_23 : decode prog_1_method_29_code 23 = .ok (.iconst (-1), 1) := by decide +kernel
theorem d_Q_greatest_24 : decode prog_1_method_29_code 24 = .ok (.ireturn, 1) := by decide +kernel
theorem d_Q_isConfiguration_0 : decode prog_1_method_30_code 0 = .ok (.iload_n 0, 1) := by decide +kernel
theorem d_Q_isConfiguration_1 : decode prog_1_method_30_code 1 = .ok (.iconst 1, 1) := by decide +kernel
theorem d_Q_isConfiguration_2 : decode prog_1_method_30_code 2 = .ok (.if_icmp .lt 10, 3) := by decide +kernel
theorem d_Q_isConfiguration_5 : decode prog_1_method_30_code 5 = .ok (.iload_n 0, 1) := by decide +kernel
theorem d_Q_isConfiguration_6 : decode prog_1_method_30_code 6 = .ok (.sipush 256, 3) := by decide +kernel
theorem d_Q_isConfiguration_9 : decode prog_1_method_30_code 9 = .ok (.if_icmp .lt 5, 3) := by decide +kernel
theorem d_Q_isConfiguration_12 : decode prog_1_method_30_code 12 = .ok (.iconst 0, 1) := by decide +kernel
theorem d_Q_isConfiguration_13 : decode prog_1_method_30_code 13 = .ok (.ireturn, 1) := by decide +kernel
theorem d_Q_isConfiguration_14 : decode prog_1_method_30_code 14 = .ok (.iload_n 0, 1) := by decide +kernel
theorem d_Q_isConfiguration_15 : decode prog_1_method_30_code 15 = .ok (.invokestatic 111, 3) := by decide +kernel
theorem d_Q_isConfiguration_18 : decode prog_1_method_30_code 18 = .ok (.istore_n 3, 1) := by decide +kernel
theorem d_Q_isConfiguration_19 : decode prog_1_method_30_code 19 = .ok (.iload_n 1, 1) := by decide +kernel
theorem d_Q_isConfiguration_20 : decode prog_1_method_30_code 20 = .ok (.iconst 1, 1) := by decide +kernel
theorem d_Q_isConfiguration_21 : decode prog_1_method_30_code 21 = .ok (.if_icmp .lt 29, 3) := by decide +kernel
theorem d_Q_isConfiguration_24 : decode prog_1_method_30_code 24 = .ok (.iload_n 1, 1) := by decide +kernel
theorem d_Q_isConfiguration_25 : decode prog_1_method_30_code 25 = .ok (.iload_n 3, 1) := by decide +kernel
theorem d_Q_isConfiguration_26 : decode prog_1_method_30_code 26 = .ok (.if_icmp .gt 24, 3) := by decide +kernel
theorem d_Q_isConfiguration_29 : decode prog_1_method_30_code 29 = .ok (.iload_n 2, 1) := by decide +kernel
theorem d_Q_isConfiguration_30 : decode prog_1_method_30_code 30 = .ok (.iconst 1, 1) := by decide +kernel
theorem d_Q_isConfiguration_31 : decode prog_1_method_30_code 31 = .ok (.if_icmp .lt 19, 3) := by decide +kernel
theorem d_Q_isConfiguration_34 : decode prog_1_method_30_code 34 = .ok (.iload_n 2, 1) := by decide +kernel
theorem d_Q_isConfiguration_35 : decode prog_1_method_30_code 35 = .ok (.iload_n 3, 1) := by decide +kernel
theorem d_Q_isConfiguration_36 : decode prog_1_method_30_code 36 = .ok (.if_icmp .gt 14, 3) := by decide +kernel
theorem d_Q_isConfiguration_39 : decode prog_1_method_30_code 39 = .ok (.iload_n 1, 1) := by decide +kernel
theorem d_Q_isConfiguration_40 : decode prog_1_method_30_code 40 = .ok (.iload_n 2, 1) := by decide +kernel
theorem d_Q_isConfiguration_41 : decode prog_1_method_30_code 41 = .ok (.iadd, 1) := by decide +kernel
theorem d_Q_isConfiguration_42 : decode prog_1_method_30_code 42 = .ok (.iload_n 3, 1) := by decide +kernel
theorem d_Q_isConfiguration_43 : decode prog_1_method_30_code 43 = .ok (.if_icmp .le 7, 3) := by decide +kernel
theorem d_Q_isConfiguration_46 : decode prog_1_method_30_code 46 = .ok (.iconst 1, 1) := by decide +kernel
theorem d_Q_isConfiguration_47 : decode prog_1_method_30_code 47 = .ok (.goto 4, 3) := by decide +kernel
theorem d_Q_isConfiguration_50 : decode prog_1_method_30_code 50 = .ok (.iconst 0, 1) := by decide +kernel
theorem d_Q_isConfiguration_51 : decode prog_1_method_30_code 51 = .ok (.ireturn, 1) := by decide +kernel
theorem d_Q_configuration_0 : decode prog_1_method_31_code 0 = .ok (.iload_n 0, 1) := by decide +kernel
theorem d_Q_configuration_1 : decode prog_1_method_31_code 1 = .ok (.sipush 256, 3) := by decide +kernel
theorem d_Q_configuration_4 : decode prog_1_method_31_code 4 = .ok (.iload_n 1, 1) := by decide +kernel
theorem d_Q_configuration_5 : decode prog_1_method_31_code 5 = .ok (.imul, 1) := by decide +kernel
theorem d_Q_configuration_6 : decode prog_1_method_31_code 6 = .ok (.iadd, 1) := by decide +kernel
theorem d_Q_configuration_7 : decode prog_1_method_31_code 7 = .ok (.sipush 4096, 3) := by decide +kernel
theorem d_Q_configuration_10 : decode prog_1_method_31_code 10 = .ok (.iload_n 2, 1) := by decide +kernel
theorem d_Q_configuration_11 : decode prog_1_method_31_code 11 = .ok (.imul, 1) := by decide +kernel
theorem d_Q_configuration_12 : decode prog_1_method_31_code 12 = .ok (.iadd, 1) := by decide +kernel
theorem d_Q_configuration_13 : decode prog_1_method_31_code 13 = .ok (.ireturn, 1) := by decide +kernel
theorem d_Q_membersOf_0 : decode prog_1_method_32_code 0 = .ok (.iload_n 0, 1) := by decide +kernel
theorem d_Q_membersOf_1 : decode prog_1_method_32_code 1 = .ok (.sipush 255, 3) := by decide +kernel
theorem d_Q_membersOf_4 : decode prog_1_method_32_code 4 = .ok (.iand, 1) := by decide +kernel
theorem d_Q_membersOf_5 : decode prog_1_method_32_code 5 = .ok (.ireturn, 1) := by decide +kernel
theorem d_Q_readersOf_0 : decode prog_1_method_33_code 0 = .ok (.iload_n 0, 1) := by decide +kernel
theorem d_Q_readersOf_1 : decode prog_1_method_33_code 1 = .ok (.bipush 8, 2) := by decide +kernel
theorem d_Q_readersOf_3 : decode prog_1_method_33_code 3 = .ok (.ishr, 1) := by decide +kernel
theorem d_Q_readersOf_4 : decode prog_1_method_33_code 4 = .ok (.bipush 15, 2) := by decide +kernel
theorem d_Q_readersOf_6 : decode prog_1_method_33_code 6 = .ok (.iand, 1) := by decide +kernel
theorem d_Q_readersOf_7 : decode prog_1_method_33_code 7 = .ok (.ireturn, 1) := by decide +kernel
theorem d_Q_writersOf_0 : decode prog_1_method_34_code 0 = .ok (.iload_n 0, 1) := by decide +kernel
theorem d_Q_writersOf_1 : decode prog_1_method_34_code 1 = .ok (.bipush 12, 2) := by decide +kernel
theorem d_Q_writersOf_3 : decode prog_1_method_34_code 3 = .ok (.ishr, 1) := by decide +kernel
theorem d_Q_writersOf_4 : decode prog_1_method_34_code 4 = .ok (.bipush 15, 2) := by decide +kernel
theorem d_Q_writersOf_6 : decode prog_1_method_34_code 6 = .ok (.iand, 1) := by decide +kernel
theorem d_Q_writersOf_7 : decode prog_1_method_34_code 7 = .ok (.ireturn, 1) := by decide +kernel
theorem d_Q_isAnswer_0 : decode prog_1_method_35_code 0 = .ok (.iload_n 0, 1) := by decide +kernel
theorem d_Q_isAnswer_1 : decode prog_1_method_35_code 1 = .ok (.tableswitch 65 2 13 #[63, 65, 63, 65, 63, 65, 63, 63, 65, 63, 65, 63], 63) := by decide +kernel
theorem d_Q_isAnswer_64 : decode prog_1_method_35_code 64 = .ok (.iconst 1, 1) := by decide +kernel
theorem d_Q_isAnswer_65 : decode prog_1_method_35_code 65 = .ok (.ireturn, 1) := by decide +kernel
theorem d_Q_isAnswer_66 : decode prog_1_method_35_code 66 = .ok (.iconst 0, 1) := by decide +kernel
theorem d_Q_isAnswer_67 : decode prog_1_method_35_code 67 = .ok (.ireturn, 1) := by decide +kernel
theorem d_Q_openTask_0 : decode prog_1_method_36_code 0 = .ok (.aload_n 0, 1) := by decide +kernel
theorem d_Q_openTask_1 : decode prog_1_method_36_code 1 = .ok (.iload_n 1, 1) := by decide +kernel
theorem d_Q_openTask_2 : decode prog_1_method_36_code 2 = .ok (.invokevirtual 93, 3) := by decide +kernel
theorem d_Q_openTask_5 : decode prog_1_method_36_code 5 = .ok (.astore 4, 2) := by decide +kernel
theorem d_Q_openTask_7 : decode prog_1_method_36_code 7 = .ok (.aload 4, 2) := by decide +kernel
theorem d_Q_openTask_9 : decode prog_1_method_36_code 9 = .ok (.ifnull 31, 3) := by decide +kernel
theorem d_Q_openTask_12 : decode prog_1_method_36_code 12 = .ok (.aload 4, 2) := by decide +kernel
theorem d_Q_openTask_14 : decode prog_1_method_36_code 14 = .ok (.invokevirtual 129, 3) := by decide +kernel
theorem d_Q_openTask_17 : decode prog_1_method_36_code 17 = .ok (.ifCond .eq 23, 3) := by decide +kernel
theorem d_Q_openTask_20 : decode prog_1_method_36_code 20 = .ok (.aload 4, 2) := by decide +kernel
theorem d_Q_openTask_22 : decode prog_1_method_36_code 22 = .ok (.invokevirtual 119, 3) := by decide +kernel
theorem d_Q_openTask_25 : decode prog_1_method_36_code 25 = .ok (.ifCond .ne 15, 3) := by decide +kernel
theorem d_Q_openTask_28 : decode prog_1_method_36_code 28 = .ok (.aload 4, 2) := by decide +kernel
theorem d_Q_openTask_30 : decode prog_1_method_36_code 30 = .ok (.getfield 55, 3) := by decide +kernel
theorem d_Q_openTask_33 : decode prog_1_method_36_code 33 = .ok (.iconst 1, 1) := by decide +kernel
theorem d_Q_openTask_34 : decode prog_1_method_36_code 34 = .ok (.invokevirtual 101, 3) := by decide +kernel
theorem d_Q_openTask_37 : decode prog_1_method_36_code 37 = .ok (.ifCond .ne 5, 3) := by decide +kernel
theorem d_Q_openTask_40 : decode prog_1_method_36_code 40 = .ok (.aconst_null, 1) := by decide +kernel
theorem d_Q_openTask_41 : decode prog_1_method_36_code 41 = .ok (.areturn, 1) := by decide +kernel
theorem d_Q_openTask_42 : decode prog_1_method_36_code 42 = .ok (.aload_n 0, 1) := by decide +kernel
theorem d_Q_openTask_43 : decode prog_1_method_36_code 43 = .ok (.dup, 1) := by decide +kernel
theorem d_Q_openTask_44 : decode prog_1_method_36_code 44 = .ok (.getfield 32, 3) := by decide +kernel
theorem d_Q_openTask_47 : decode prog_1_method_36_code 47 = .ok (.iconst 1, 1) := by decide +kernel
theorem d_Q_openTask_48 : decode prog_1_method_36_code 48 = .ok (.iadd, 1) := by decide +kernel
theorem d_Q_openTask_49 : decode prog_1_method_36_code 49 = .ok (.putfield 32, 3) := by decide +kernel
theorem d_Q_openTask_52 : decode prog_1_method_36_code 52 = .ok (.aload 4, 2) := by decide +kernel
theorem d_Q_openTask_54 : decode prog_1_method_36_code 54 = .ok (.getfield 84, 3) := by decide +kernel
theorem d_Q_openTask_57 : decode prog_1_method_36_code 57 = .ok (.aload_n 0, 1) := by decide +kernel
theorem d_Q_openTask_58 : decode prog_1_method_36_code 58 = .ok (.getfield 32, 3) := by decide +kernel
theorem d_Q_openTask_61 : decode prog_1_method_36_code 61 = .ok (.iload_n 2, 1) := by decide +kernel
theorem d_Q_openTask_62 : decode prog_1_method_36_code 62 = .ok (.iload_n 3, 1) := by decide +kernel
theorem d_Q_openTask_63 : decode prog_1_method_36_code 63 = .ok (.invokevirtual 302, 3) := by decide +kernel
theorem d_Q_openTask_66 : decode prog_1_method_36_code 66 = .ok (.aload 4, 2) := by decide +kernel
theorem d_Q_openTask_68 : decode prog_1_method_36_code 68 = .ok (.areturn, 1) := by decide +kernel
theorem d_Q_started_0 : decode prog_1_method_37_code 0 = .ok (.aload_n 0, 1) := by decide +kernel
theorem d_Q_started_1 : decode prog_1_method_37_code 1 = .ok (.invokevirtual 129, 3) := by decide +kernel
theorem d_Q_started_4 : decode prog_1_method_37_code 4 = .ok (.ifCond .eq 13, 3) := by decide +kernel
theorem d_Q_started_7 : decode prog_1_method_37_code 7 = .ok (.aload_n 0, 1) := by decide +kernel
theorem d_Q_started_8 : decode prog_1_method_37_code 8 = .ok (.getfield 84, 3) := by decide +kernel
theorem d_Q_started_11 : decode prog_1_method_37_code 11 = .ok (.getfield 249, 3) := by decide +kernel
theorem d_Q_started_14 : decode prog_1_method_37_code 14 = .ok (.goto 5, 3) := by decide +kernel
theorem d_Q_started_17 : decode prog_1_method_37_code 17 = .ok (.bipush (-9), 2) := by decide +kernel
theorem d_Q_started_19 : decode prog_1_method_37_code 19 = .ok (.ireturn, 1) := by decide +kernel
theorem d_Q_beginFirst_0 : decode prog_1_method_38_code 0 = .ok (.aload_n 1, 1) := by decide +kernel
theorem d_Q_beginFirst_1 : decode prog_1_method_38_code 1 = .ok (.getfield 84, 3) := by decide +kernel
theorem d_Q_beginFirst_4 : decode prog_1_method_38_code 4 = .ok (.astore_n 2, 1) := by decide +kernel
theorem d_Q_beginFirst_5 : decode prog_1_method_38_code 5 = .ok (.aload_n 1, 1) := by decide +kernel
theorem d_Q_beginFirst_6 : decode prog_1_method_38_code 6 = .ok (.iconst 1, 1) := by decide +kernel
theorem d_Q_beginFirst_7 : decode prog_1_method_38_code 7 = .ok (.invokevirtual 304, 3) := by decide +kernel
theorem d_Q_beginFirst_10 : decode prog_1_method_38_code 10 = .ok (.aload_n 2, 1) := by decide +kernel
theorem d_Q_beginFirst_11 : decode prog_1_method_38_code 11 = .ok (.getfield 264, 3) := by decide +kernel
theorem d_Q_beginFirst_14 : decode prog_1_method_38_code 14 = .ok (.aload_n 1, 1) := by decide +kernel
theorem d_Q_beginFirst_15 : decode prog_1_method_38_code 15 = .ok (.getfield 146, 3) := by decide +kernel
theorem d_Q_beginFirst_18 : decode prog_1_method_38_code 18 = .ok (.invokevirtual 149, 3) := by decide +kernel
theorem d_Q_beginFirst_21 : decode prog_1_method_38_code 21 = .ok (.aload_n 2, 1) := by decide +kernel
theorem d_Q_beginFirst_22 : decode prog_1_method_38_code 22 = .ok (.getfield 123, 3) := by decide +kernel
theorem d_Q_beginFirst_25 : decode prog_1_method_38_code 25 = .ok (.iconst 3, 1) := by decide +kernel
theorem d_Q_beginFirst_26 : decode prog_1_method_38_code 26 = .ok (.if_icmp .ne 42, 3) := by decide +kernel
theorem d_Q_beginFirst_29 : decode prog_1_method_38_code 29 = .ok (.aload_n 2, 1) := by decide +kernel
theorem d_Q_beginFirst_30 : decode prog_1_method_38_code 30 = .ok (.iconst 0, 1) := by decide +kernel
theorem d_Q_beginFirst_31 : decode prog_1_method_38_code 31 = .ok (.putfield 307, 3) := by decide +kernel
theorem d_Q_beginFirst_34 : decode prog_1_method_38_code 34 = .ok (.aload_n 2, 1) := by decide +kernel
theorem d_Q_beginFirst_35 : decode prog_1_method_38_code 35 = .ok (.aload_n 2, 1) := by decide +kernel
theorem d_Q_beginFirst_36 : decode prog_1_method_38_code 36 = .ok (.getfield 108, 3) := by decide +kernel
theorem d_Q_beginFirst_39 : decode prog_1_method_38_code 39 = .ok (.putfield 310, 3) := by decide +kernel
theorem d_Q_beginFirst_42 : decode prog_1_method_38_code 42 = .ok (.aload_n 1, 1) := by decide +kernel
theorem d_Q_beginFirst_43 : decode prog_1_method_38_code 43 = .ok (.aload_n 1, 1) := by decide +kernel
theorem d_Q_beginFirst_44 : decode prog_1_method_38_code 44 = .ok (.getfield 207, 3) := by decide +kernel
theorem d_Q_beginFirst_47 : decode prog_1_method_38_code 47 = .ok (.iconst 1, 1) := by decide +kernel
theorem d_Q_beginFirst_48 : decode prog_1_method_38_code 48 = .ok (.iadd, 1) := by decide +kernel
theorem d_Q_beginFirst_49 : decode prog_1_method_38_code 49 = .ok (.invokevirtual 313, 3) := by decide +kernel
theorem d_Q_beginFirst_52 : decode prog_1_method_38_code 52 = .ok (.aload_n 2, 1) := by decide +kernel
theorem d_Q_beginFirst_53 : decode prog_1_method_38_code 53 = .ok (.bipush 8, 2) := by decide +kernel
theorem d_Q_beginFirst_55 : decode prog_1_method_38_code 55 = .ok (.aload_n 1, 1) := by decide +kernel
theorem d_Q_beginFirst_56 : decode prog_1_method_38_code 56 = .ok (.getfield 207, 3) := by decide +kernel
theorem d_Q_beginFirst_59 : decode prog_1_method_38_code 59 = .ok (.imul, 1) := by decide +kernel
theorem d_Q_beginFirst_60 : decode prog_1_method_38_code 60 = .ok (.aload_n 1, 1) := by decide +kernel
theorem d_Q_beginFirst_61 : decode prog_1_method_38_code 61 = .ok (.getfield 316, 3) := by decide +kernel
theorem d_Q_beginFirst_64 : decode prog_1_method_38_code 64 = .ok (.iadd, 1) := by decide +kernel
theorem d_Q_beginFirst_65 : decode prog_1_method_38_code 65 = .ok (.putfield 267, 3) := by decide +kernel
theorem d_Q_beginFirst_68 : decode prog_1_method_38_code 68 = .ok (.aload_n 0, 1) := by decide +kernel
theorem d_Q_beginFirst_69 : decode prog_1_method_38_code 69 = .ok (.aload_n 1, 1) := by decide +kernel
theorem d_Q_beginFirst_70 : decode prog_1_method_38_code 70 = .ok (.invokevirtual 319, 3) := by decide +kernel
theorem d_Q_beginFirst_73 : decode prog_1_method_38_code 73 = .ok (.return_, 1) := by decide +kernel
theorem d_Q_beginSecond_0 : decode prog_1_method_39_code 0 = .ok (.aload_n 1, 1) := by decide +kernel
theorem d_Q_beginSecond_1 : decode prog_1_method_39_code 1 = .ok (.getfield 84, 3) := by decide +kernel
theorem d_Q_beginSecond_4 : decode prog_1_method_39_code 4 = .ok (.astore_n 2, 1) := by decide +kernel
theorem d_Q_beginSecond_5 : decode prog_1_method_39_code 5 = .ok (.aload_n 1, 1) := by decide +kernel
theorem d_Q_beginSecond_6 : decode prog_1_method_39_code 6 = .ok (.iconst 2, 1) := by decide +kernel
theorem d_Q_beginSecond_7 : decode prog_1_method_39_code 7 = .ok (.invokevirtual 304, 3) := by decide +kernel
theorem d_Q_beginSecond_10 : decode prog_1_method_39_code 10 = .ok (.aload_n 2, 1) := by decide +kernel
theorem d_Q_beginSecond_11 : decode prog_1_method_39_code 11 = .ok (.getfield 123, 3) := by decide +kernel
theorem d_Q_beginSecond_14 : decode prog_1_method_39_code 14 = .ok (.iconst 2, 1) := by decide +kernel
theorem d_Q_beginSecond_15 : decode prog_1_method_39_code 15 = .ok (.if_icmp .ne 35, 3) := by decide +kernel
theorem d_Q_beginSecond_18 : decode prog_1_method_39_code 18 = .ok (.aload_n 2, 1) := by decide +kernel
theorem d_Q_beginSecond_19 : decode prog_1_method_39_code 19 = .ok (.getfield 264, 3) := by decide +kernel
theorem d_Q_beginSecond_22 : decode prog_1_method_39_code 22 = .ok (.aload_n 2, 1) := by decide +kernel
theorem d_Q_beginSecond_23 : decode prog_1_method_39_code 23 = .ok (.getfield 255, 3) := by decide +kernel
theorem d_Q_beginSecond_26 : decode prog_1_method_39_code 26 = .ok (.aload_n 2, 1) := by decide +kernel
theorem d_Q_beginSecond_27 : decode prog_1_method_39_code 27 = .ok (.getfield 264, 3) := by decide +kernel
theorem d_Q_beginSecond_30 : decode prog_1_method_39_code 30 = .ok (.aload_n 2, 1) := by decide +kernel
theorem d_Q_beginSecond_31 : decode prog_1_method_39_code 31 = .ok (.getfield 255, 3) := by decide +kernel
theorem d_Q_beginSecond_34 : decode prog_1_method_39_code 34 = .ok (.invokevirtual 216, 3) := by decide +kernel
theorem d_Q_beginSecond_37 : decode prog_1_method_39_code 37 = .ok (.iconst 1, 1) := by decide +kernel
theorem d_Q_beginSecond_38 : decode prog_1_method_39_code 38 = .ok (.iadd, 1) := by decide +kernel
theorem d_Q_beginSecond_39 : decode prog_1_method_39_code 39 = .ok (.aload_n 1, 1) := by decide +kernel
theorem d_Q_beginSecond_40 : decode prog_1_method_39_code 40 = .ok (.getfield 316, 3) := by decide +kernel
theorem d_Q_beginSecond_43 : decode prog_1_method_39_code 43 = .ok (.aload_n 2, 1) := by decide +kernel
theorem d_Q_beginSecond_44 : decode prog_1_method_39_code 44 = .ok (.getfield 88, 3) := by decide +kernel
theorem d_Q_beginSecond_47 : decode prog_1_method_39_code 47 = .ok (.invokevirtual 322, 3) := by decide +kernel
theorem d_Q_beginSecond_50 : decode prog_1_method_39_code 50 = .ok (.aload_n 2, 1) := by decide +kernel
theorem d_Q_beginSecond_51 : decode prog_1_method_39_code 51 = .ok (.invokevirtual 261, 3) := by decide +kernel
theorem d_Q_beginSecond_54 : decode prog_1_method_39_code 54 = .ok (.ifCond .eq 17, 3) := by decide +kernel
theorem d_Q_beginSecond_57 : decode prog_1_method_39_code 57 = .ok (.aload_n 1, 1) := by decide +kernel
theorem d_Q_beginSecond_58 : decode prog_1_method_39_code 58 = .ok (.aload_n 2, 1) := by decide +kernel
theorem d_Q_beginSecond_59 : decode prog_1_method_39_code 59 = .ok (.getfield 264, 3) := by decide +kernel
theorem d_Q_beginSecond_62 : decode prog_1_method_39_code 62 = .ok (.iconst 1, 1) := by decide +kernel
theorem d_Q_beginSecond_63 : decode prog_1_method_39_code 63 = .ok (.aload_n 2, 1) := by decide +kernel
theorem d_Q_beginSecond_64 : decode prog_1_method_39_code 64 = .ok (.getfield 255, 3) := by decide +kernel
theorem d_Q_beginSecond_67 : decode prog_1_method_39_code 67 = .ok (.ishl, 1) := by decide +kernel
theorem d_Q_beginSecond_68 : decode prog_1_method_39_code 68 = .ok (.invokevirtual 325, 3) := by decide +kernel
theorem d_Q_beginSecond_71 : decode prog_1_method_39_code 71 = .ok (.aload_n 0, 1) := by decide +kernel
theorem d_Q_beginSecond_72 : decode prog_1_method_39_code 72 = .ok (.aload_n 1, 1) := by decide +kernel
theorem d_Q_beginSecond_73 : decode prog_1_method_39_code 73 = .ok (.invokevirtual 319, 3) := by decide +kernel
theorem d_Q_beginSecond_76 : decode prog_1_method_39_code 76 = .ok (.return_, 1) := by decide +kernel
theorem d_Q_ask_0 : decode prog_1_method_40_code 0 = .ok (.aload_n 1, 1) := by decide +kernel
theorem d_Q_ask_1 : decode prog_1_method_40_code 1 = .ok (.getfield 84, 3) := by decide +kernel
theorem d_Q_ask_4 : decode prog_1_method_40_code 4 = .ok (.astore_n 2, 1) := by decide +kernel
theorem d_Q_ask_5 : decode prog_1_method_40_code 5 = .ok (.aload_n 1, 1) := by decide +kernel
theorem d_Q_ask_6 : decode prog_1_method_40_code 6 = .ok (.getfield 55, 3) := by decide +kernel
theorem d_Q_ask_9 : decode prog_1_method_40_code 9 = .ok (.aload_n 1, 1) := by decide +kernel
theorem d_Q_ask_10 : decode prog_1_method_40_code 10 = .ok (.invokestatic 329, 3) := by decide +kernel
theorem d_Q_ask_13 : decode prog_1_method_40_code 13 = .ok (.invokevirtual 332, 3) := by decide +kernel
theorem d_Q_ask_16 : decode prog_1_method_40_code 16 = .ok (.istore_n 3, 1) := by decide +kernel
theorem d_Q_ask_17 : decode prog_1_method_40_code 17 = .ok (.aload_n 0, 1) := by decide +kernel
theorem d_Q_ask_18 : decode prog_1_method_40_code 18 = .ok (.aload_n 1, 1) := by decide +kernel
theorem d_Q_ask_19 : decode prog_1_method_40_code 19 = .ok (.invokevirtual 335, 3) := by decide +kernel
theorem d_Q_ask_22 : decode prog_1_method_40_code 22 = .ok (.iconst 0, 1) := by decide +kernel
theorem d_Q_ask_23 : decode prog_1_method_40_code 23 = .ok (.istore 4, 2) := by decide +kernel
theorem d_Q_ask_25 : decode prog_1_method_40_code 25 = .ok (.iload 4, 2) := by decide +kernel
theorem d_Q_ask_27 : decode prog_1_method_40_code 27 = .ok (.bipush 8, 2) := by decide +kernel
theorem d_Q_ask_29 : decode prog_1_method_40_code 29 = .ok (.if_icmp .ge 102, 3) := by decide +kernel
theorem d_Q_ask_32 : decode prog_1_method_40_code 32 = .ok (.aload_n 1, 1) := by decide +kernel
theorem d_Q_ask_33 : decode prog_1_method_40_code 33 = .ok (.invokevirtual 129, 3) := by decide +kernel
theorem d_Q_ask_36 : decode prog_1_method_40_code 36 = .ok (.ifCond .eq 95, 3) := by decide +kernel
theorem d_Q_ask_39 : decode prog_1_method_40_code 39 = .ok (.iload_n 3, 1) := by decide +kernel
theorem d_Q_ask_40 : decode prog_1_method_40_code 40 = .ok (.iload 4, 2) := by decide +kernel
theorem d_Q_ask_42 : decode prog_1_method_40_code 42 = .ok (.invokestatic 298, 3) := by decide +kernel
theorem d_Q_ask_45 : decode prog_1_method_40_code 45 = .ok (.ifCond .eq 80, 3) := by decide +kernel
theorem d_Q_ask_48 : decode prog_1_method_40_code 48 = .ok (.aload_n 2, 1) := by decide +kernel
theorem d_Q_ask_49 : decode prog_1_method_40_code 49 = .ok (.getfield 132, 3) := by decide +kernel
theorem d_Q_ask_52 : decode prog_1_method_40_code 52 = .ok (.iload 4, 2) := by decide +kernel
theorem d_Q_ask_54 : decode prog_1_method_40_code 54 = .ok (.invokestatic 298, 3) := by decide +kernel
theorem d_Q_ask_57 : decode prog_1_method_40_code 57 = .ok (.ifCond .eq 6, 3) := by decide +kernel
theorem d_Q_ask_60 : decode prog_1_method_40_code 60 = .ok (.goto 65, 3) := by decide +kernel
theorem d_Q_ask_63 : decode prog_1_method_40_code 63 = .ok (.aload_n 2, 1) := by decide +kernel
theorem d_Q_ask_64 : decode prog_1_method_40_code 64 = .ok (.dup, 1) := by decide +kernel
theorem d_Q_ask_65 : decode prog_1_method_40_code 65 = .ok (.getfield 132, 3) := by decide +kernel
theorem d_Q_ask_68 : decode prog_1_method_40_code 68 = .ok (.iconst 1, 1) := by decide +kernel
theorem d_Q_ask_69 : decode prog_1_method_40_code 69 = .ok (.iload 4, 2) := by decide +kernel
theorem d_Q_ask_71 : decode prog_1_method_40_code 71 = .ok (.ishl, 1) := by decide +kernel
theorem d_Q_ask_72 : decode prog_1_method_40_code 72 = .ok (.ior, 1) := by decide +kernel
theorem d_Q_ask_73 : decode prog_1_method_40_code 73 = .ok (.putfield 132, 3) := by decide +kernel
theorem d_Q_ask_76 : decode prog_1_method_40_code 76 = .ok (.iload 4, 2) := by decide +kernel
theorem d_Q_ask_78 : decode prog_1_method_40_code 78 = .ok (.aload_n 1, 1) := by decide +kernel
theorem d_Q_ask_79 : decode prog_1_method_40_code 79 = .ok (.getfield 316, 3) := by decide +kernel
theorem d_Q_ask_82 : decode prog_1_method_40_code 82 = .ok (.if_icmp .ne 23, 3) := by decide +kernel
theorem d_Q_ask_85 : decode prog_1_method_40_code 85 = .ok (.aload_n 0, 1) := by decide +kernel
theorem d_Q_ask_86 : decode prog_1_method_40_code 86 = .ok (.aload_n 1, 1) := by decide +kernel
theorem d_Q_ask_87 : decode prog_1_method_40_code 87 = .ok (.aload_n 0, 1) := by decide +kernel
theorem d_Q_ask_88 : decode prog_1_method_40_code 88 = .ok (.getfield 25, 3) := by decide +kernel
theorem d_Q_ask_91 : decode prog_1_method_40_code 91 = .ok (.invokevirtual 183, 3) := by decide +kernel
theorem d_Q_ask_94 : decode prog_1_method_40_code 94 = .ok (.aload_n 1, 1) := by decide +kernel
theorem d_Q_ask_95 : decode prog_1_method_40_code 95 = .ok (.aload_n 0, 1) := by decide +kernel
theorem d_Q_ask_96 : decode prog_1_method_40_code 96 = .ok (.getfield 29, 3) := by decide +kernel
theorem d_Q_ask_99 : decode prog_1_method_40_code 99 = .ok (.invokestatic 179, 3) := by decide +kernel
theorem d_Q_ask_102 : decode prog_1_method_40_code 102 = .ok (.goto 23, 3) := by decide +kernel
theorem d_Q_ask_105 : decode prog_1_method_40_code 105 = .ok (.aload_n 0, 1) := by decide +kernel
theorem d_Q_ask_106 : decode prog_1_method_40_code 106 = .ok (.getfield 25, 3) := by decide +kernel
theorem d_Q_ask_109 : decode prog_1_method_40_code 109 = .ok (.iload 4, 2) := by decide +kernel
theorem d_Q_ask_111 : decode prog_1_method_40_code 111 = .ok (.putfield 163, 3) := by decide +kernel
theorem d_Q_ask_114 : decode prog_1_method_40_code 114 = .ok (.aload_n 0, 1) := by decide +kernel
theorem d_Q_ask_115 : decode prog_1_method_40_code 115 = .ok (.getfield 18, 3) := by decide +kernel
theorem d_Q_ask_118 : decode prog_1_method_40_code 118 = .ok (.aload_n 0, 1) := by decide +kernel
theorem d_Q_ask_119 : decode prog_1_method_40_code 119 = .ok (.getfield 25, 3) := by decide +kernel
theorem d_Q_ask_122 : decode prog_1_method_40_code 122 = .ok (.invokevirtual 155, 3) := by decide +kernel
theorem d_Q_ask_125 : decode prog_1_method_40_code 125 = .ok (.iinc 4 1, 3) := by decide +kernel
theorem d_Q_ask_128 : decode prog_1_method_40_code 128 = .ok (.goto (-103), 3) := by decide +kernel
theorem d_Q_ask_131 : decode prog_1_method_40_code 131 = .ok (.return_, 1) := by decide +kernel
theorem d_Q_askAgain_0 : decode prog_1_method_41_code 0 = .ok (.aload_n 1, 1) := by decide +kernel
theorem d_Q_askAgain_1 : decode prog_1_method_41_code 1 = .ok (.getfield 84, 3) := by decide +kernel
theorem d_Q_askAgain_4 : decode prog_1_method_41_code 4 = .ok (.getfield 132, 3) := by decide +kernel
theorem d_Q_askAgain_7 : decode prog_1_method_41_code 7 = .ok (.aload_n 1, 1) := by decide +kernel
theorem d_Q_askAgain_8 : decode prog_1_method_41_code 8 = .ok (.getfield 84, 3) := by decide +kernel
theorem d_Q_askAgain_11 : decode prog_1_method_41_code 11 = .ok (.getfield 135, 3) := by decide +kernel
theorem d_Q_askAgain_14 : decode prog_1_method_41_code 14 = .ok (.iconst (-1), 1) := by decide +kernel
theorem d_Q_askAgain_15 : decode prog_1_method_41_code 15 = .ok (.ixor, 1) := by decide +kernel
theorem d_Q_askAgain_16 : decode prog_1_method_41_code 16 = .ok (.iand, 1) := by decide +kernel
theorem d_Q_askAgain_17 : decode prog_1_method_41_code 17 = .ok (.istore_n 2, 1) := by decide +kernel
theorem d_Q_askAgain_18 : decode prog_1_method_41_code 18 = .ok (.aload_n 0, 1) := by decide +kernel
theorem d_Q_askAgain_19 : decode prog_1_method_41_code 19 = .ok (.aload_n 1, 1) := by decide +kernel
theorem d_Q_askAgain_20 : decode prog_1_method_41_code 20 = .ok (.invokevirtual 335, 3) := by decide +kernel
theorem d_Q_askAgain_23 : decode prog_1_method_41_code 23 = .ok (.iconst 0, 1) := by decide +kernel
theorem d_Q_askAgain_24 : decode prog_1_method_41_code 24 = .ok (.istore_n 3, 1) := by decide +kernel
theorem d_Q_askAgain_25 : decode prog_1_method_41_code 25 = .ok (.iload_n 3, 1) := by decide +kernel
theorem d_Q_askAgain_26 : decode prog_1_method_41_code 26 = .ok (.bipush 8, 2) := by decide +kernel
theorem d_Q_askAgain_28 : decode prog_1_method_41_code 28 = .ok (.if_icmp .ge 36, 3) := by decide +kernel
theorem d_Q_askAgain_31 : decode prog_1_method_41_code 31 = .ok (.iload_n 2, 1) := by decide +kernel
theorem d_Q_askAgain_32 : decode prog_1_method_41_code 32 = .ok (.iload_n 3, 1) := by decide +kernel
theorem d_Q_askAgain_33 : decode prog_1_method_41_code 33 = .ok (.invokestatic 298, 3) := by decide +kernel
theorem d_Q_askAgain_36 : decode prog_1_method_41_code 36 = .ok (.ifCond .eq 22, 3) := by decide +kernel
theorem d_Q_askAgain_39 : decode prog_1_method_41_code 39 = .ok (.aload_n 0, 1) := by decide +kernel
theorem d_Q_askAgain_40 : decode prog_1_method_41_code 40 = .ok (.getfield 25, 3) := by decide +kernel
theorem d_Q_askAgain_43 : decode prog_1_method_41_code 43 = .ok (.iload_n 3, 1) := by decide +kernel
theorem d_Q_askAgain_44 : decode prog_1_method_41_code 44 = .ok (.putfield 163, 3) := by decide +kernel
theorem d_Q_askAgain_47 : decode prog_1_method_41_code 47 = .ok (.aload_n 0, 1) := by decide +kernel
theorem d_Q_askAgain_48 : decode prog_1_method_41_code 48 = .ok (.getfield 18, 3) := by decide +kernel
theorem d_Q_askAgain_51 : decode prog_1_method_41_code 51 = .ok (.aload_n 0, 1) := by decide +kernel
theorem d_Q_askAgain_52 : decode prog_1_method_41_code 52 = .ok (.getfield 25, 3) := by decide +kernel
theorem d_Q_askAgain_55 : decode prog_1_method_41_code 55 = .ok (.invokevirtual 155, 3) := by decide +kernel
theorem d_Q_askAgain_58 : decode prog_1_method_41_code 58 = .ok (.iinc 3 1, 3) := by decide +kernel
theorem d_Q_askAgain_61 : decode prog_1_method_41_code 61 = .ok (.goto (-36), 3) := by decide +kernel
theorem d_Q_askAgain_64 : decode prog_1_method_41_code 64 = .ok (.return_, 1) := by decide +kernel
theorem d_Q_draftRequest_0 : decode prog_1_method_42_code 0 = .ok (.aload_n 1, 1) := by decide +kernel
theorem d_Q_draftRequest_1 : decode prog_1_method_42_code 1 = .ok (.getfield 84, 3) := by decide +kernel
theorem d_Q_draftRequest_4 : decode prog_1_method_42_code 4 = .ok (.astore_n 2, 1) := by decide +kernel
theorem d_Q_draftRequest_5 : decode prog_1_method_42_code 5 = .ok (.aload_n 0, 1) := by decide +kernel
theorem d_Q_draftRequest_6 : decode prog_1_method_42_code 6 = .ok (.getfield 25, 3) := by decide +kernel
theorem d_Q_draftRequest_9 : decode prog_1_method_42_code 9 = .ok (.aload_n 2, 1) := by decide +kernel
theorem d_Q_draftRequest_10 : decode prog_1_method_42_code 10 = .ok (.invokestatic 338, 3) := by decide +kernel
theorem d_Q_draftRequest_13 : decode prog_1_method_42_code 13 = .ok (.aload_n 1, 1) := by decide +kernel
theorem d_Q_draftRequest_14 : decode prog_1_method_42_code 14 = .ok (.aload_n 1, 1) := by decide +kernel
theorem d_Q_draftRequest_15 : decode prog_1_method_42_code 15 = .ok (.getfield 316, 3) := by decide +kernel
theorem d_Q_draftRequest_18 : decode prog_1_method_42_code 18 = .ok (.invokevirtual 138, 3) := by decide +kernel
theorem d_Q_draftRequest_21 : decode prog_1_method_42_code 21 = .ok (.aload_n 0, 1) := by decide +kernel
theorem d_Q_draftRequest_22 : decode prog_1_method_42_code 22 = .ok (.getfield 25, 3) := by decide +kernel
theorem d_Q_draftRequest_25 : decode prog_1_method_42_code 25 = .ok (.aload_n 1, 1) := by decide +kernel
theorem d_Q_draftRequest_26 : decode prog_1_method_42_code 26 = .ok (.getfield 201, 3) := by decide +kernel
theorem d_Q_draftRequest_29 : decode prog_1_method_42_code 29 = .ok (.putfield 273, 3) := by decide +kernel
theorem d_Q_draftRequest_32 : decode prog_1_method_42_code 32 = .ok (.aload_n 0, 1) := by decide +kernel
theorem d_Q_draftRequest_33 : decode prog_1_method_42_code 33 = .ok (.getfield 25, 3) := by decide +kernel
theorem d_Q_draftRequest_36 : decode prog_1_method_42_code 36 = .ok (.aload_n 1, 1) := by decide +kernel
theorem d_Q_draftRequest_37 : decode prog_1_method_42_code 37 = .ok (.getfield 213, 3) := by decide +kernel
theorem d_Q_draftRequest_40 : decode prog_1_method_42_code 40 = .ok (.putfield 274, 3) := by decide +kernel
theorem d_Q_draftRequest_43 : decode prog_1_method_42_code 43 = .ok (.aload_n 0, 1) := by decide +kernel
theorem d_Q_draftRequest_44 : decode prog_1_method_42_code 44 = .ok (.getfield 25, 3) := by decide +kernel
theorem d_Q_draftRequest_47 : decode prog_1_method_42_code 47 = .ok (.aload_n 2, 1) := by decide +kernel
theorem d_Q_draftRequest_48 : decode prog_1_method_42_code 48 = .ok (.getfield 123, 3) := by decide +kernel
theorem d_Q_draftRequest_51 : decode prog_1_method_42_code 51 = .ok (.iconst 4, 1) := by decide +kernel
theorem d_Q_draftRequest_52 : decode prog_1_method_42_code 52 = .ok (.if_icmp .ne 7, 3) := by decide +kernel
theorem d_Q_draftRequest_55 : decode prog_1_method_42_code 55 = .ok (.iconst 0, 1) := by decide +kernel
theorem d_Q_draftRequest_56 : decode prog_1_method_42_code 56 = .ok (.goto 7, 3) := by decide +kernel
theorem d_Q_draftRequest_59 : decode prog_1_method_42_code 59 = .ok (.aload_n 2, 1) := by decide +kernel
theorem d_Q_draftRequest_60 : decode prog_1_method_42_code 60 = .ok (.getfield 255, 3) := by decide +kernel
theorem d_Q_draftRequest_63 : decode prog_1_method_42_code 63 = .ok (.putfield 275, 3) := by decide +kernel
theorem d_Q_draftRequest_66 : decode prog_1_method_42_code 66 = .ok (.aload_n 0, 1) := by decide +kernel
theorem d_Q_draftRequest_67 : decode prog_1_method_42_code 67 = .ok (.getfield 25, 3) := by decide +kernel
theorem d_Q_draftRequest_70 : decode prog_1_method_42_code 70 = .ok (.aload_n 2, 1) := by decide +kernel
theorem d_Q_draftRequest_71 : decode prog_1_method_42_code 71 = .ok (.getfield 267, 3) := by decide +kernel
theorem d_Q_draftRequest_74 : decode prog_1_method_42_code 74 = .ok (.putfield 279, 3) := by decide +kernel
theorem d_Q_draftRequest_77 : decode prog_1_method_42_code 77 = .ok (.aload_n 0, 1) := by decide +kernel
theorem d_Q_draftRequest_78 : decode prog_1_method_42_code 78 = .ok (.getfield 25, 3) := by decide +kernel
theorem d_Q_draftRequest_81 : decode prog_1_method_42_code 81 = .ok (.aload_n 0, 1) := by decide +kernel
theorem d_Q_draftRequest_82 : decode prog_1_method_42_code 82 = .ok (.getfield 25, 3) := by decide +kernel
theorem d_Q_draftRequest_85 : decode prog_1_method_42_code 85 = .ok (.getfield 175, 3) := by decide +kernel
theorem d_Q_draftRequest_88 : decode prog_1_method_42_code 88 = .ok (.bipush 7, 2) := by decide +kernel
theorem d_Q_draftRequest_90 : decode prog_1_method_42_code 90 = .ok (.if_icmp .ne 10, 3) := by decide +kernel
theorem d_Q_draftRequest_93 : decode prog_1_method_42_code 93 = .ok (.aload_n 2, 1) := by decide +kernel
theorem d_Q_draftRequest_94 : decode prog_1_method_42_code 94 = .ok (.getfield 310, 3) := by decide +kernel
theorem d_Q_draftRequest_97 : decode prog_1_method_42_code 97 = .ok (.goto 4, 3) := by decide +kernel
theorem d_Q_draftRequest_100 : decode prog_1_method_42_code 100 = .ok (.iconst 0, 1) := by decide +kernel
theorem d_Q_draftRequest_101 : decode prog_1_method_42_code 101 = .ok (.putfield 280, 3) := by decide +kernel
theorem d_Q_draftRequest_104 : decode prog_1_method_42_code 104 = .ok (.aload_n 0, 1) := by decide +kernel
theorem d_Q_draftRequest_105 : decode prog_1_method_42_code 105 = .ok (.getfield 25, 3) := by decide +kernel
theorem d_Q_draftRequest_108 : decode prog_1_method_42_code 108 = .ok (.getfield 142, 3) := by decide +kernel
theorem d_Q_draftRequest_111 : decode prog_1_method_42_code 111 = .ok (.aload_n 2, 1) := by decide +kernel
theorem d_Q_draftRequest_112 : decode prog_1_method_42_code 112 = .ok (.getfield 264, 3) := by decide +kernel
theorem d_Q_draftRequest_115 : decode prog_1_method_42_code 115 = .ok (.invokevirtual 149, 3) := by decide +kernel
theorem d_Q_draftRequest_118 : decode prog_1_method_42_code 118 = .ok (.return_, 1) := by decide +kernel
theorem d_Q_requestOf_0 : decode prog_1_method_43_code 0 = .ok (.aload_n 0, 1) := by decide +kernel
theorem d_Q_requestOf_1 : decode prog_1_method_43_code 1 = .ok (.getfield 252, 3) := by decide +kernel
theorem d_Q_requestOf_4 : decode prog_1_method_43_code 4 = .ok (.iconst 1, 1) := by decide +kernel
theorem d_Q_requestOf_5 : decode prog_1_method_43_code 5 = .ok (.if_icmp .ne 7, 3) := by decide +kernel
theorem d_Q_requestOf_8 : decode prog_1_method_43_code 8 = .ok (.iconst 1, 1) := by decide +kernel
theorem d_Q_requestOf_9 : decode prog_1_method_43_code 9 = .ok (.goto 4, 3) := by decide +kernel
theorem d_Q_requestOf_12 : decode prog_1_method_43_code 12 = .ok (.iconst 0, 1) := by decide +kernel
theorem d_Q_requestOf_13 : decode prog_1_method_43_code 13 = .ok (.istore_n 1, 1) := by decide +kernel
theorem d_Q_requestOf_14 : decode prog_1_method_43_code 14 = .ok (.aload_n 0, 1) := by decide +kernel
theorem d_Q_requestOf_15 : decode prog_1_method_43_code 15 = .ok (.getfield 123, 3) := by decide +kernel
theorem d_Q_requestOf_18 : decode prog_1_method_43_code 18 = .ok (.lookupswitch 49 #[(3, 26), (4, 37)], 26) := by decide +kernel
theorem d_Q_requestOf_44 : decode prog_1_method_43_code 44 = .ok (.iload_n 1, 1) := by decide +kernel
theorem d_Q_requestOf_45 : decode prog_1_method_43_code 45 = .ok (.ifCond .eq 7, 3) := by decide +kernel
theorem d_Q_requestOf_48 : decode prog_1_method_43_code 48 = .ok (.iconst 5, 1) := by decide +kernel
theorem d_Q_requestOf_49 : decode prog_1_method_43_code 49 = .ok (.goto 5, 3) := by decide +kernel
theorem d_Q_requestOf_52 : decode prog_1_method_43_code 52 = .ok (.bipush 7, 2) := by decide +kernel
theorem d_Q_requestOf_54 : decode prog_1_method_43_code 54 = .ok (.ireturn, 1) := by decide +kernel
theorem d_Q_requestOf_55 : decode prog_1_method_43_code 55 = .ok (.iload_n 1, 1) := by decide +kernel
theorem d_Q_requestOf_56 : decode prog_1_method_43_code 56 = .ok (.ifCond .eq 8, 3) := by decide +kernel
theorem d_Q_requestOf_59 : decode prog_1_method_43_code 59 = .ok (.bipush 10, 2) := by decide +kernel
theorem d_Q_requestOf_61 : decode prog_1_method_43_code 61 = .ok (.goto 5, 3) := by decide +kernel
theorem d_Q_requestOf_64 : decode prog_1_method_43_code 64 = .ok (.bipush 12, 2) := by decide +kernel
theorem d_Q_requestOf_66 : decode prog_1_method_43_code 66 = .ok (.ireturn, 1) := by decide +kernel
theorem d_Q_requestOf_67 : decode prog_1_method_43_code 67 = .ok (.iload_n 1, 1) := by decide +kernel
theorem d_Q_requestOf_68 : decode prog_1_method_43_code 68 = .ok (.ifCond .eq 7, 3) := by decide +kernel
theorem d_Q_requestOf_71 : decode prog_1_method_43_code 71 = .ok (.iconst 1, 1) := by decide +kernel
theorem d_Q_requestOf_72 : decode prog_1_method_43_code 72 = .ok (.goto 4, 3) := by decide +kernel
theorem d_Q_requestOf_75 : decode prog_1_method_43_code 75 = .ok (.iconst 3, 1) := by decide +kernel
theorem d_Q_requestOf_76 : decode prog_1_method_43_code 76 = .ok (.ireturn, 1) := by decide +kernel
theorem d_Q_concerned_0 : decode prog_1_method_44_code 0 = .ok (.aload_n 0, 1) := by decide +kernel
theorem d_Q_concerned_1 : decode prog_1_method_44_code 1 = .ok (.getfield 84, 3) := by decide +kernel
theorem d_Q_concerned_4 : decode prog_1_method_44_code 4 = .ok (.astore_n 1, 1) := by decide +kernel
theorem d_Q_concerned_5 : decode prog_1_method_44_code 5 = .ok (.aload_n 1, 1) := by decide +kernel
theorem d_Q_concerned_6 : decode prog_1_method_44_code 6 = .ok (.getfield 123, 3) := by decide +kernel
theorem d_Q_concerned_9 : decode prog_1_method_44_code 9 = .ok (.lookupswitch 58 #[(3, 27), (4, 36)], 27) := by decide +kernel
theorem d_Q_concerned_36 : decode prog_1_method_44_code 36 = .ok (.iconst 1, 1) := by decide +kernel
theorem d_Q_concerned_37 : decode prog_1_method_44_code 37 = .ok (.aload_n 1, 1) := by decide +kernel
theorem d_Q_concerned_38 : decode prog_1_method_44_code 38 = .ok (.getfield 255, 3) := by decide +kernel
theorem d_Q_concerned_41 : decode prog_1_method_44_code 41 = .ok (.iconst 1, 1) := by decide +kernel
theorem d_Q_concerned_42 : decode prog_1_method_44_code 42 = .ok (.isub, 1) := by decide +kernel
theorem d_Q_concerned_43 : decode prog_1_method_44_code 43 = .ok (.ishl, 1) := by decide +kernel
theorem d_Q_concerned_44 : decode prog_1_method_44_code 44 = .ok (.ireturn, 1) := by decide +kernel
theorem d_Q_concerned_45 : decode prog_1_method_44_code 45 = .ok (.aload_n 1, 1) := by decide +kernel
theorem d_Q_concerned_46 : decode prog_1_method_44_code 46 = .ok (.getfield 252, 3) := by decide +kernel
theorem d_Q_concerned_49 : decode prog_1_method_44_code 49 = .ok (.iconst 1, 1) := by decide +kernel
theorem d_Q_concerned_50 : decode prog_1_method_44_code 50 = .ok (.if_icmp .ne 10, 3) := by decide +kernel
theorem d_Q_concerned_53 : decode prog_1_method_44_code 53 = .ok (.aload_n 1, 1) := by decide +kernel
theorem d_Q_concerned_54 : decode prog_1_method_44_code 54 = .ok (.getfield 116, 3) := by decide +kernel
theorem d_Q_concerned_57 : decode prog_1_method_44_code 57 = .ok (.goto 9, 3) := by decide +kernel
theorem d_Q_concerned_60 : decode prog_1_method_44_code 60 = .ok (.iconst 1, 1) := by decide +kernel
theorem d_Q_concerned_61 : decode prog_1_method_44_code 61 = .ok (.aload_n 1, 1) := by decide +kernel
theorem d_Q_concerned_62 : decode prog_1_method_44_code 62 = .ok (.getfield 255, 3) := by decide +kernel
theorem d_Q_concerned_65 : decode prog_1_method_44_code 65 = .ok (.ishl, 1) := by decide +kernel
theorem d_Q_concerned_66 : decode prog_1_method_44_code 66 = .ok (.ireturn, 1) := by decide +kernel
theorem d_Q_concerned_67 : decode prog_1_method_44_code 67 = .ok (.aload_n 0, 1) := by decide +kernel
theorem d_Q_concerned_68 : decode prog_1_method_44_code 68 = .ok (.getfield 55, 3) := by decide +kernel
theorem d_Q_concerned_71 : decode prog_1_method_44_code 71 = .ok (.iconst 1, 1) := by decide +kernel
theorem d_Q_concerned_72 : decode prog_1_method_44_code 72 = .ok (.invokevirtual 101, 3) := by decide +kernel
theorem d_Q_concerned_75 : decode prog_1_method_44_code 75 = .ok (.ireturn, 1) := by decide +kernel
theorem d_Q_isEnough_0 : decode prog_1_method_45_code 0 = .ok (.aload_n 0, 1) := by decide +kernel
theorem d_Q_isEnough_1 : decode prog_1_method_45_code 1 = .ok (.invokestatic 329, 3) := by decide +kernel
theorem d_Q_isEnough_4 : decode prog_1_method_45_code 4 = .ok (.istore_n 1, 1) := by decide +kernel
theorem d_Q_isEnough_5 : decode prog_1_method_45_code 5 = .ok (.iconst 0, 1) := by decide +kernel
theorem d_Q_isEnough_6 : decode prog_1_method_45_code 6 = .ok (.istore_n 2, 1) := by decide +kernel
theorem d_Q_isEnough_7 : decode prog_1_method_45_code 7 = .ok (.iload_n 2, 1) := by decide +kernel
theorem d_Q_isEnough_8 : decode prog_1_method_45_code 8 = .ok (.bipush 16, 2) := by decide +kernel
theorem d_Q_isEnough_10 : decode prog_1_method_45_code 10 = .ok (.if_icmp .ge 58, 3) := by decide +kernel
theorem d_Q_isEnough_13 : decode prog_1_method_45_code 13 = .ok (.aload_n 0, 1) := by decide +kernel
theorem d_Q_isEnough_14 : decode prog_1_method_45_code 14 = .ok (.getfield 55, 3) := by decide +kernel
theorem d_Q_isEnough_17 : decode prog_1_method_45_code 17 = .ok (.iload_n 2, 1) := by decide +kernel
theorem d_Q_isEnough_18 : decode prog_1_method_45_code 18 = .ok (.invokevirtual 231, 3) := by decide +kernel
theorem d_Q_isEnough_21 : decode prog_1_method_45_code 21 = .ok (.istore_n 3, 1) := by decide +kernel
theorem d_Q_isEnough_22 : decode prog_1_method_45_code 22 = .ok (.aload_n 0, 1) := by decide +kernel
theorem d_Q_isEnough_23 : decode prog_1_method_45_code 23 = .ok (.getfield 84, 3) := by decide +kernel
theorem d_Q_isEnough_26 : decode prog_1_method_45_code 26 = .ok (.getfield 135, 3) := by decide +kernel
theorem d_Q_isEnough_29 : decode prog_1_method_45_code 29 = .ok (.iload_n 3, 1) := by decide +kernel
theorem d_Q_isEnough_30 : decode prog_1_method_45_code 30 = .ok (.invokestatic 342, 3) := by decide +kernel
theorem d_Q_isEnough_33 : decode prog_1_method_45_code 33 = .ok (.iand, 1) := by decide +kernel
theorem d_Q_isEnough_34 : decode prog_1_method_45_code 34 = .ok (.invokestatic 111, 3) := by decide +kernel
theorem d_Q_isEnough_37 : decode prog_1_method_45_code 37 = .ok (.istore 4, 2) := by decide +kernel
theorem d_Q_isEnough_39 : decode prog_1_method_45_code 39 = .ok (.iload_n 1, 1) := by decide +kernel
theorem d_Q_isEnough_40 : decode prog_1_method_45_code 40 = .ok (.iload_n 2, 1) := by decide +kernel
theorem d_Q_isEnough_41 : decode prog_1_method_45_code 41 = .ok (.invokestatic 298, 3) := by decide +kernel
theorem d_Q_isEnough_44 : decode prog_1_method_45_code 44 = .ok (.ifCond .eq 18, 3) := by decide +kernel
theorem d_Q_isEnough_47 : decode prog_1_method_45_code 47 = .ok (.iload 4, 2) := by decide +kernel
theorem d_Q_isEnough_49 : decode prog_1_method_45_code 49 = .ok (.aload_n 0, 1) := by decide +kernel
theorem d_Q_isEnough_50 : decode prog_1_method_45_code 50 = .ok (.getfield 84, 3) := by decide +kernel
theorem d_Q_isEnough_53 : decode prog_1_method_45_code 53 = .ok (.iload_n 3, 1) := by decide +kernel
theorem d_Q_isEnough_54 : decode prog_1_method_45_code 54 = .ok (.invokestatic 345, 3) := by decide +kernel
theorem d_Q_isEnough_57 : decode prog_1_method_45_code 57 = .ok (.if_icmp .ge 5, 3) := by decide +kernel
theorem d_Q_isEnough_60 : decode prog_1_method_45_code 60 = .ok (.iconst 0, 1) := by decide +kernel
theorem d_Q_isEnough_61 : decode prog_1_method_45_code 61 = .ok (.ireturn, 1) := by decide +kernel
theorem d_Q_isEnough_62 : decode prog_1_method_45_code 62 = .ok (.iinc 2 1, 3) := by decide +kernel
theorem d_Q_isEnough_65 : decode prog_1_method_45_code 65 = .ok (.goto (-58), 3) := by decide +kernel
theorem d_Q_isEnough_68 : decode prog_1_method_45_code 68 = .ok (.iconst 1, 1) := by decide +kernel
theorem d_Q_isEnough_69 : decode prog_1_method_45_code 69 = .ok (.ireturn, 1) := by decide +kernel
theorem d_Q_needed_0 : decode prog_1_method_46_code 0 = .ok (.aload_n 0, 1) := by decide +kernel
theorem d_Q_needed_1 : decode prog_1_method_46_code 1 = .ok (.getfield 252, 3) := by decide +kernel
theorem d_Q_needed_4 : decode prog_1_method_46_code 4 = .ok (.iconst 2, 1) := by decide +kernel
theorem d_Q_needed_5 : decode prog_1_method_46_code 5 = .ok (.if_icmp .ne 8, 3) := by decide +kernel
theorem d_Q_needed_8 : decode prog_1_method_46_code 8 = .ok (.iload_n 1, 1) := by decide +kernel
theorem d_Q_needed_9 : decode prog_1_method_46_code 9 = .ok (.invokestatic 349, 3) := by decide +kernel
theorem d_Q_needed_12 : decode prog_1_method_46_code 12 = .ok (.ireturn, 1) := by decide +kernel
theorem d_Q_needed_13 : decode prog_1_method_46_code 13 = .ok (.iload_n 1, 1) := by decide +kernel
theorem d_Q_needed_14 : decode prog_1_method_46_code 14 = .ok (.invokestatic 352, 3) := by decide +kernel
theorem d_Q_needed_17 : decode prog_1_method_46_code 17 = .ok (.istore_n 2, 1) := by decide +kernel
theorem d_Q_needed_18 : decode prog_1_method_46_code 18 = .ok (.aload_n 0, 1) := by decide +kernel
theorem d_Q_needed_19 : decode prog_1_method_46_code 19 = .ok (.getfield 123, 3) := by decide +kernel
theorem d_Q_needed_22 : decode prog_1_method_46_code 22 = .ok (.iconst 4, 1) := by decide +kernel
theorem d_Q_needed_23 : decode prog_1_method_46_code 23 = .ok (.if_icmp .ne 14, 3) := by decide +kernel
theorem d_Q_needed_26 : decode prog_1_method_46_code 26 = .ok (.iload_n 2, 1) := by decide +kernel
theorem d_Q_needed_27 : decode prog_1_method_46_code 27 = .ok (.iload_n 1, 1) := by decide +kernel
theorem d_Q_needed_28 : decode prog_1_method_46_code 28 = .ok (.invokestatic 349, 3) := by decide +kernel
theorem d_Q_needed_31 : decode prog_1_method_46_code 31 = .ok (.invokestatic 40, 3) := by decide +kernel
theorem d_Q_needed_34 : decode prog_1_method_46_code 34 = .ok (.goto 4, 3) := by decide +kernel
theorem d_Q_needed_37 : decode prog_1_method_46_code 37 = .ok (.iload_n 2, 1) := by decide +kernel
theorem d_Q_needed_38 : decode prog_1_method_46_code 38 = .ok (.ireturn, 1) := by decide +kernel
theorem d_Q_settle_0 : decode prog_1_method_47_code 0 = .ok (.iconst 0, 1) := by decide +kernel
theorem d_Q_settle_1 : decode prog_1_method_47_code 1 = .ok (.istore_n 2, 1) := by decide +kernel
theorem d_Q_settle_2 : decode prog_1_method_47_code 2 = .ok (.iload_n 2, 1) := by decide +kernel
theorem d_Q_settle_3 : decode prog_1_method_47_code 3 = .ok (.iconst 2, 1) := by decide +kernel
theorem d_Q_settle_4 : decode prog_1_method_47_code 4 = .ok (.if_icmp .ge 46, 3) := by decide +kernel
theorem d_Q_settle_7 : decode prog_1_method_47_code 7 = .ok (.aload_n 1, 1) := by decide +kernel
theorem d_Q_settle_8 : decode prog_1_method_47_code 8 = .ok (.invokevirtual 119, 3) := by decide +kernel
theorem d_Q_settle_11 : decode prog_1_method_47_code 11 = .ok (.ifCond .eq 39, 3) := by decide +kernel
theorem d_Q_settle_14 : decode prog_1_method_47_code 14 = .ok (.aload_n 1, 1) := by decide +kernel
theorem d_Q_settle_15 : decode prog_1_method_47_code 15 = .ok (.invokestatic 355, 3) := by decide +kernel
theorem d_Q_settle_18 : decode prog_1_method_47_code 18 = .ok (.ifCond .eq 32, 3) := by decide +kernel
theorem d_Q_settle_21 : decode prog_1_method_47_code 21 = .ok (.aload_n 1, 1) := by decide +kernel
theorem d_Q_settle_22 : decode prog_1_method_47_code 22 = .ok (.getfield 84, 3) := by decide +kernel
theorem d_Q_settle_25 : decode prog_1_method_47_code 25 = .ok (.getfield 252, 3) := by decide +kernel
theorem d_Q_settle_28 : decode prog_1_method_47_code 28 = .ok (.iconst 1, 1) := by decide +kernel
theorem d_Q_settle_29 : decode prog_1_method_47_code 29 = .ok (.if_icmp .ne 11, 3) := by decide +kernel
theorem d_Q_settle_32 : decode prog_1_method_47_code 32 = .ok (.aload_n 0, 1) := by decide +kernel
theorem d_Q_settle_33 : decode prog_1_method_47_code 33 = .ok (.aload_n 1, 1) := by decide +kernel
theorem d_Q_settle_34 : decode prog_1_method_47_code 34 = .ok (.invokevirtual 359, 3) := by decide +kernel
theorem d_Q_settle_37 : decode prog_1_method_47_code 37 = .ok (.goto 7, 3) := by decide +kernel
