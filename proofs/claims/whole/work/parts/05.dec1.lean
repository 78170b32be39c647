theorem d_Q_settle_40 : decode prog_1_method_47_code 40 = .ok (.aload_n 1, 1) := by decide +kernel
theorem d_Q_settle_41 : decode prog_1_method_47_code 41 = .ok (.invokestatic 362, 3) := by decide +kernel
theorem d_Q_settle_44 : decode prog_1_method_47_code 44 = .ok (.iinc 2 1, 3) := by decide +kernel
theorem d_Q_settle_47 : decode prog_1_method_47_code 47 = .ok (.goto (-45), 3) := by decide +kernel
theorem d_Q_settle_50 : decode prog_1_method_47_code 50 = .ok (.return_, 1) := by decide +kernel
theorem d_Q_finish_0 : decode prog_1_method_48_code 0 = .ok (.aload_n 0, 1) := by decide +kernel
theorem d_Q_finish_1 : decode prog_1_method_48_code 1 = .ok (.getfield 84, 3) := by decide +kernel
theorem d_Q_finish_4 : decode prog_1_method_48_code 4 = .ok (.astore_n 1, 1) := by decide +kernel
theorem d_Q_finish_5 : decode prog_1_method_48_code 5 = .ok (.aload_n 1, 1) := by decide +kernel
theorem d_Q_finish_6 : decode prog_1_method_48_code 6 = .ok (.getfield 123, 3) := by decide +kernel
theorem d_Q_finish_9 : decode prog_1_method_48_code 9 = .ok (.iconst 3, 1) := by decide +kernel
theorem d_Q_finish_10 : decode prog_1_method_48_code 10 = .ok (.if_icmp .ne 16, 3) := by decide +kernel
theorem d_Q_finish_13 : decode prog_1_method_48_code 13 = .ok (.aload_n 0, 1) := by decide +kernel
theorem d_Q_finish_14 : decode prog_1_method_48_code 14 = .ok (.aload_n 1, 1) := by decide +kernel
theorem d_Q_finish_15 : decode prog_1_method_48_code 15 = .ok (.getfield 255, 3) := by decide +kernel
theorem d_Q_finish_18 : decode prog_1_method_48_code 18 = .ok (.iconst 1, 1) := by decide +kernel
theorem d_Q_finish_19 : decode prog_1_method_48_code 19 = .ok (.aload_n 1, 1) := by decide +kernel
theorem d_Q_finish_20 : decode prog_1_method_48_code 20 = .ok (.getfield 310, 3) := by decide +kernel
theorem d_Q_finish_23 : decode prog_1_method_48_code 23 = .ok (.invokevirtual 365, 3) := by decide +kernel
theorem d_Q_finish_26 : decode prog_1_method_48_code 26 = .ok (.iconst 0, 1) := by decide +kernel
theorem d_Q_finish_27 : decode prog_1_method_48_code 27 = .ok (.istore_n 2, 1) := by decide +kernel
theorem d_Q_finish_28 : decode prog_1_method_48_code 28 = .ok (.iload_n 2, 1) := by decide +kernel
theorem d_Q_finish_29 : decode prog_1_method_48_code 29 = .ok (.bipush 16, 2) := by decide +kernel
theorem d_Q_finish_31 : decode prog_1_method_48_code 31 = .ok (.if_icmp .ge 61, 3) := by decide +kernel
theorem d_Q_finish_34 : decode prog_1_method_48_code 34 = .ok (.aload_n 1, 1) := by decide +kernel
theorem d_Q_finish_35 : decode prog_1_method_48_code 35 = .ok (.getfield 123, 3) := by decide +kernel
theorem d_Q_finish_38 : decode prog_1_method_48_code 38 = .ok (.iconst 4, 1) := by decide +kernel
theorem d_Q_finish_39 : decode prog_1_method_48_code 39 = .ok (.if_icmp .ne 53, 3) := by decide +kernel
theorem d_Q_finish_42 : decode prog_1_method_48_code 42 = .ok (.aload_n 0, 1) := by decide +kernel
theorem d_Q_finish_43 : decode prog_1_method_48_code 43 = .ok (.invokevirtual 129, 3) := by decide +kernel
theorem d_Q_finish_46 : decode prog_1_method_48_code 46 = .ok (.ifCond .eq 46, 3) := by decide +kernel
theorem d_Q_finish_49 : decode prog_1_method_48_code 49 = .ok (.aload_n 1, 1) := by decide +kernel
theorem d_Q_finish_50 : decode prog_1_method_48_code 50 = .ok (.getfield 116, 3) := by decide +kernel
theorem d_Q_finish_53 : decode prog_1_method_48_code 53 = .ok (.iload_n 2, 1) := by decide +kernel
theorem d_Q_finish_54 : decode prog_1_method_48_code 54 = .ok (.invokestatic 298, 3) := by decide +kernel
theorem d_Q_finish_57 : decode prog_1_method_48_code 57 = .ok (.ifCond .eq 29, 3) := by decide +kernel
theorem d_Q_finish_60 : decode prog_1_method_48_code 60 = .ok (.aload_n 0, 1) := by decide +kernel
theorem d_Q_finish_61 : decode prog_1_method_48_code 61 = .ok (.getfield 55, 3) := by decide +kernel
theorem d_Q_finish_64 : decode prog_1_method_48_code 64 = .ok (.iload_n 2, 1) := by decide +kernel
theorem d_Q_finish_65 : decode prog_1_method_48_code 65 = .ok (.invokevirtual 228, 3) := by decide +kernel
theorem d_Q_finish_68 : decode prog_1_method_48_code 68 = .ok (.iconst 1, 1) := by decide +kernel
theorem d_Q_finish_69 : decode prog_1_method_48_code 69 = .ok (.if_icmp .ne 17, 3) := by decide +kernel
theorem d_Q_finish_72 : decode prog_1_method_48_code 72 = .ok (.aload_n 0, 1) := by decide +kernel
theorem d_Q_finish_73 : decode prog_1_method_48_code 73 = .ok (.iload_n 2, 1) := by decide +kernel
theorem d_Q_finish_74 : decode prog_1_method_48_code 74 = .ok (.iconst 2, 1) := by decide +kernel
theorem d_Q_finish_75 : decode prog_1_method_48_code 75 = .ok (.aload_n 0, 1) := by decide +kernel
theorem d_Q_finish_76 : decode prog_1_method_48_code 76 = .ok (.getfield 55, 3) := by decide +kernel
theorem d_Q_finish_79 : decode prog_1_method_48_code 79 = .ok (.iload_n 2, 1) := by decide +kernel
theorem d_Q_finish_80 : decode prog_1_method_48_code 80 = .ok (.invokevirtual 231, 3) := by decide +kernel
theorem d_Q_finish_83 : decode prog_1_method_48_code 83 = .ok (.invokevirtual 365, 3) := by decide +kernel
theorem d_Q_finish_86 : decode prog_1_method_48_code 86 = .ok (.iinc 2 1, 3) := by decide +kernel
theorem d_Q_finish_89 : decode prog_1_method_48_code 89 = .ok (.goto (-61), 3) := by decide +kernel
theorem d_Q_finish_92 : decode prog_1_method_48_code 92 = .ok (.aload_n 0, 1) := by decide +kernel
theorem d_Q_finish_93 : decode prog_1_method_48_code 93 = .ok (.invokevirtual 129, 3) := by decide +kernel
theorem d_Q_finish_96 : decode prog_1_method_48_code 96 = .ok (.ifCond .eq 7, 3) := by decide +kernel
theorem d_Q_finish_99 : decode prog_1_method_48_code 99 = .ok (.aload_n 0, 1) := by decide +kernel
theorem d_Q_finish_100 : decode prog_1_method_48_code 100 = .ok (.invokestatic 368, 3) := by decide +kernel
theorem d_Q_finish_103 : decode prog_1_method_48_code 103 = .ok (.return_, 1) := by decide +kernel
theorem d_Q_conclude_0 : decode prog_1_method_49_code 0 = .ok (.aload_n 0, 1) := by decide +kernel
theorem d_Q_conclude_1 : decode prog_1_method_49_code 1 = .ok (.getfield 84, 3) := by decide +kernel
theorem d_Q_conclude_4 : decode prog_1_method_49_code 4 = .ok (.astore_n 1, 1) := by decide +kernel
theorem d_Q_conclude_5 : decode prog_1_method_49_code 5 = .ok (.aload_n 1, 1) := by decide +kernel
theorem d_Q_conclude_6 : decode prog_1_method_49_code 6 = .ok (.iconst 0, 1) := by decide +kernel
theorem d_Q_conclude_7 : decode prog_1_method_49_code 7 = .ok (.putfield 252, 3) := by decide +kernel
theorem d_Q_conclude_10 : decode prog_1_method_49_code 10 = .ok (.aload_n 1, 1) := by decide +kernel
theorem d_Q_conclude_11 : decode prog_1_method_49_code 11 = .ok (.getfield 123, 3) := by decide +kernel
theorem d_Q_conclude_14 : decode prog_1_method_49_code 14 = .ok (.lookupswitch 70 #[(3, 26), (4, 56)], 26) := by decide +kernel
theorem d_Q_conclude_40 : decode prog_1_method_49_code 40 = .ok (.aload_n 1, 1) := by decide +kernel
theorem d_Q_conclude_41 : decode prog_1_method_49_code 41 = .ok (.aload_n 0, 1) := by decide +kernel
theorem d_Q_conclude_42 : decode prog_1_method_49_code 42 = .ok (.getfield 55, 3) := by decide +kernel
theorem d_Q_conclude_45 : decode prog_1_method_49_code 45 = .ok (.aload_n 1, 1) := by decide +kernel
theorem d_Q_conclude_46 : decode prog_1_method_49_code 46 = .ok (.getfield 255, 3) := by decide +kernel
theorem d_Q_conclude_49 : decode prog_1_method_49_code 49 = .ok (.invokevirtual 231, 3) := by decide +kernel
theorem d_Q_conclude_52 : decode prog_1_method_49_code 52 = .ok (.aload_n 1, 1) := by decide +kernel
theorem d_Q_conclude_53 : decode prog_1_method_49_code 53 = .ok (.getfield 108, 3) := by decide +kernel
theorem d_Q_conclude_56 : decode prog_1_method_49_code 56 = .ok (.if_icmp .ne 7, 3) := by decide +kernel
theorem d_Q_conclude_59 : decode prog_1_method_49_code 59 = .ok (.iconst 1, 1) := by decide +kernel
theorem d_Q_conclude_60 : decode prog_1_method_49_code 60 = .ok (.goto 4, 3) := by decide +kernel
theorem d_Q_conclude_63 : decode prog_1_method_49_code 63 = .ok (.iconst 0, 1) := by decide +kernel
theorem d_Q_conclude_64 : decode prog_1_method_49_code 64 = .ok (.putfield 258, 3) := by decide +kernel
theorem d_Q_conclude_67 : decode prog_1_method_49_code 67 = .ok (.goto 32, 3) := by decide +kernel
theorem d_Q_conclude_70 : decode prog_1_method_49_code 70 = .ok (.aload_n 1, 1) := by decide +kernel
theorem d_Q_conclude_71 : decode prog_1_method_49_code 71 = .ok (.aload_n 1, 1) := by decide +kernel
theorem d_Q_conclude_72 : decode prog_1_method_49_code 72 = .ok (.getfield 116, 3) := by decide +kernel
theorem d_Q_conclude_75 : decode prog_1_method_49_code 75 = .ok (.invokestatic 111, 3) := by decide +kernel
theorem d_Q_conclude_78 : decode prog_1_method_49_code 78 = .ok (.putfield 258, 3) := by decide +kernel
theorem d_Q_conclude_81 : decode prog_1_method_49_code 81 = .ok (.goto 18, 3) := by decide +kernel
theorem d_Q_conclude_84 : decode prog_1_method_49_code 84 = .ok (.aload_n 1, 1) := by decide +kernel
theorem d_Q_conclude_85 : decode prog_1_method_49_code 85 = .ok (.aload_n 1, 1) := by decide +kernel
theorem d_Q_conclude_86 : decode prog_1_method_49_code 86 = .ok (.getfield 264, 3) := by decide +kernel
theorem d_Q_conclude_89 : decode prog_1_method_49_code 89 = .ok (.aload_n 1, 1) := by decide +kernel
theorem d_Q_conclude_90 : decode prog_1_method_49_code 90 = .ok (.getfield 255, 3) := by decide +kernel
theorem d_Q_conclude_93 : decode prog_1_method_49_code 93 = .ok (.invokevirtual 222, 3) := by decide +kernel
theorem d_Q_conclude_96 : decode prog_1_method_49_code 96 = .ok (.putfield 258, 3) := by decide +kernel
theorem d_Q_conclude_99 : decode prog_1_method_49_code 99 = .ok (.return_, 1) := by decide +kernel
theorem d_Q_look_0 : decode prog_1_method_50_code 0 = .ok (.aload_n 1, 1) := by decide +kernel
theorem d_Q_look_1 : decode prog_1_method_50_code 1 = .ok (.getfield 84, 3) := by decide +kernel
theorem d_Q_look_4 : decode prog_1_method_50_code 4 = .ok (.astore_n 3, 1) := by decide +kernel
theorem d_Q_look_5 : decode prog_1_method_50_code 5 = .ok (.aload_n 1, 1) := by decide +kernel
theorem d_Q_look_6 : decode prog_1_method_50_code 6 = .ok (.invokevirtual 119, 3) := by decide +kernel
theorem d_Q_look_9 : decode prog_1_method_50_code 9 = .ok (.ifCond .ne 4, 3) := by decide +kernel
theorem d_Q_look_12 : decode prog_1_method_50_code 12 = .ok (.return_, 1) := by decide +kernel
theorem d_Q_look_13 : decode prog_1_method_50_code 13 = .ok (.aload_n 3, 1) := by decide +kernel
theorem d_Q_look_14 : decode prog_1_method_50_code 14 = .ok (.getfield 123, 3) := by decide +kernel
theorem d_Q_look_17 : decode prog_1_method_50_code 17 = .ok (.iconst 3, 1) := by decide +kernel
theorem d_Q_look_18 : decode prog_1_method_50_code 18 = .ok (.if_icmp .ne 24, 3) := by decide +kernel
theorem d_Q_look_21 : decode prog_1_method_50_code 21 = .ok (.aload_n 1, 1) := by decide +kernel
theorem d_Q_look_22 : decode prog_1_method_50_code 22 = .ok (.getfield 55, 3) := by decide +kernel
theorem d_Q_look_25 : decode prog_1_method_50_code 25 = .ok (.aload_n 3, 1) := by decide +kernel
theorem d_Q_look_26 : decode prog_1_method_50_code 26 = .ok (.getfield 255, 3) := by decide +kernel
theorem d_Q_look_29 : decode prog_1_method_50_code 29 = .ok (.invokevirtual 228, 3) := by decide +kernel
theorem d_Q_look_32 : decode prog_1_method_50_code 32 = .ok (.ifCond .eq 51, 3) := by decide +kernel
theorem d_Q_look_35 : decode prog_1_method_50_code 35 = .ok (.aload_n 1, 1) := by decide +kernel
theorem d_Q_look_36 : decode prog_1_method_50_code 36 = .ok (.invokestatic 368, 3) := by decide +kernel
theorem d_Q_look_39 : decode prog_1_method_50_code 39 = .ok (.goto 44, 3) := by decide +kernel
theorem d_Q_look_42 : decode prog_1_method_50_code 42 = .ok (.aload_n 3, 1) := by decide +kernel
theorem d_Q_look_43 : decode prog_1_method_50_code 43 = .ok (.invokevirtual 261, 3) := by decide +kernel
theorem d_Q_look_46 : decode prog_1_method_50_code 46 = .ok (.ifCond .eq 37, 3) := by decide +kernel
theorem d_Q_look_49 : decode prog_1_method_50_code 49 = .ok (.aload_n 3, 1) := by decide +kernel
theorem d_Q_look_50 : decode prog_1_method_50_code 50 = .ok (.getfield 252, 3) := by decide +kernel
theorem d_Q_look_53 : decode prog_1_method_50_code 53 = .ok (.iconst 1, 1) := by decide +kernel
theorem d_Q_look_54 : decode prog_1_method_50_code 54 = .ok (.if_icmp .ne 24, 3) := by decide +kernel
theorem d_Q_look_57 : decode prog_1_method_50_code 57 = .ok (.iload_n 2, 1) := by decide +kernel
theorem d_Q_look_58 : decode prog_1_method_50_code 58 = .ok (.aload_n 1, 1) := by decide +kernel
theorem d_Q_look_59 : decode prog_1_method_50_code 59 = .ok (.getfield 55, 3) := by decide +kernel
theorem d_Q_look_62 : decode prog_1_method_50_code 62 = .ok (.iconst 2, 1) := by decide +kernel
theorem d_Q_look_63 : decode prog_1_method_50_code 63 = .ok (.invokevirtual 101, 3) := by decide +kernel
theorem d_Q_look_66 : decode prog_1_method_50_code 66 = .ok (.iand, 1) := by decide +kernel
theorem d_Q_look_67 : decode prog_1_method_50_code 67 = .ok (.ifCond .eq 11, 3) := by decide +kernel
theorem d_Q_look_70 : decode prog_1_method_50_code 70 = .ok (.aload_n 0, 1) := by decide +kernel
theorem d_Q_look_71 : decode prog_1_method_50_code 71 = .ok (.aload_n 1, 1) := by decide +kernel
theorem d_Q_look_72 : decode prog_1_method_50_code 72 = .ok (.invokevirtual 73, 3) := by decide +kernel
theorem d_Q_look_75 : decode prog_1_method_50_code 75 = .ok (.goto 8, 3) := by decide +kernel
theorem d_Q_look_78 : decode prog_1_method_50_code 78 = .ok (.aload_n 0, 1) := by decide +kernel
theorem d_Q_look_79 : decode prog_1_method_50_code 79 = .ok (.aload_n 1, 1) := by decide +kernel
theorem d_Q_look_80 : decode prog_1_method_50_code 80 = .ok (.invokevirtual 319, 3) := by decide +kernel
theorem d_Q_look_83 : decode prog_1_method_50_code 83 = .ok (.return_, 1) := by decide +kernel
theorem d_Q_serve_0 : decode prog_1_method_51_code 0 = .ok (.aload_n 0, 1) := by decide +kernel
theorem d_Q_serve_1 : decode prog_1_method_51_code 1 = .ok (.getfield 29, 3) := by decide +kernel
theorem d_Q_serve_4 : decode prog_1_method_51_code 4 = .ok (.aload_n 2, 1) := by decide +kernel
theorem d_Q_serve_5 : decode prog_1_method_51_code 5 = .ok (.aload_n 1, 1) := by decide +kernel
theorem d_Q_serve_6 : decode prog_1_method_51_code 6 = .ok (.getfield 316, 3) := by decide +kernel
theorem d_Q_serve_9 : decode prog_1_method_51_code 9 = .ok (.invokevirtual 371, 3) := by decide +kernel
theorem d_Q_serve_12 : decode prog_1_method_51_code 12 = .ok (.aload_n 2, 1) := by decide +kernel
theorem d_Q_serve_13 : decode prog_1_method_51_code 13 = .ok (.getfield 175, 3) := by decide +kernel
theorem d_Q_serve_16 : decode prog_1_method_51_code 16 = .ok (.tableswitch 248 1 15 #[76, 248, 112, 248, 137, 248, 137, 248, 248, 146, 248, 172, 248, 194, 207], 76) := by decide +kernel
theorem d_Q_serve_92 : decode prog_1_method_51_code 92 = .ok (.aload_n 0, 1) := by decide +kernel
theorem d_Q_serve_93 : decode prog_1_method_51_code 93 = .ok (.getfield 29, 3) := by decide +kernel
theorem d_Q_serve_96 : decode prog_1_method_51_code 96 = .ok (.iconst 2, 1) := by decide +kernel
theorem d_Q_serve_97 : decode prog_1_method_51_code 97 = .ok (.putfield 175, 3) := by decide +kernel
theorem d_Q_serve_100 : decode prog_1_method_51_code 100 = .ok (.aload_n 0, 1) := by decide +kernel
theorem d_Q_serve_101 : decode prog_1_method_51_code 101 = .ok (.getfield 29, 3) := by decide +kernel
theorem d_Q_serve_104 : decode prog_1_method_51_code 104 = .ok (.aload_n 2, 1) := by decide +kernel
theorem d_Q_serve_105 : decode prog_1_method_51_code 105 = .ok (.getfield 275, 3) := by decide +kernel
theorem d_Q_serve_108 : decode prog_1_method_51_code 108 = .ok (.putfield 275, 3) := by decide +kernel
theorem d_Q_serve_111 : decode prog_1_method_51_code 111 = .ok (.aload_n 0, 1) := by decide +kernel
theorem d_Q_serve_112 : decode prog_1_method_51_code 112 = .ok (.getfield 29, 3) := by decide +kernel
theorem d_Q_serve_115 : decode prog_1_method_51_code 115 = .ok (.getfield 142, 3) := by decide +kernel
theorem d_Q_serve_118 : decode prog_1_method_51_code 118 = .ok (.aload_n 1, 1) := by decide +kernel
theorem d_Q_serve_119 : decode prog_1_method_51_code 119 = .ok (.getfield 146, 3) := by decide +kernel
theorem d_Q_serve_122 : decode prog_1_method_51_code 122 = .ok (.invokevirtual 149, 3) := by decide +kernel
theorem d_Q_serve_125 : decode prog_1_method_51_code 125 = .ok (.goto 139, 3) := by decide +kernel
theorem d_Q_serve_128 : decode prog_1_method_51_code 128 = .ok (.aload_n 0, 1) := by decide +kernel
theorem d_Q_serve_129 : decode prog_1_method_51_code 129 = .ok (.getfield 29, 3) := by decide +kernel
theorem d_Q_serve_132 : decode prog_1_method_51_code 132 = .ok (.iconst 4, 1) := by decide +kernel
theorem d_Q_serve_133 : decode prog_1_method_51_code 133 = .ok (.putfield 175, 3) := by decide +kernel
theorem d_Q_serve_136 : decode prog_1_method_51_code 136 = .ok (.aload_n 1, 1) := by decide +kernel
theorem d_Q_serve_137 : decode prog_1_method_51_code 137 = .ok (.aload_n 2, 1) := by decide +kernel
theorem d_Q_serve_138 : decode prog_1_method_51_code 138 = .ok (.getfield 142, 3) := by decide +kernel
theorem d_Q_serve_141 : decode prog_1_method_51_code 141 = .ok (.iconst 1, 1) := by decide +kernel
theorem d_Q_serve_142 : decode prog_1_method_51_code 142 = .ok (.aload_n 2, 1) := by decide +kernel
theorem d_Q_serve_143 : decode prog_1_method_51_code 143 = .ok (.getfield 275, 3) := by decide +kernel
theorem d_Q_serve_146 : decode prog_1_method_51_code 146 = .ok (.ishl, 1) := by decide +kernel
theorem d_Q_serve_147 : decode prog_1_method_51_code 147 = .ok (.invokevirtual 325, 3) := by decide +kernel
theorem d_Q_serve_150 : decode prog_1_method_51_code 150 = .ok (.goto 114, 3) := by decide +kernel
theorem d_Q_serve_153 : decode prog_1_method_51_code 153 = .ok (.aload_n 0, 1) := by decide +kernel
theorem d_Q_serve_154 : decode prog_1_method_51_code 154 = .ok (.aload_n 1, 1) := by decide +kernel
theorem d_Q_serve_155 : decode prog_1_method_51_code 155 = .ok (.aload_n 2, 1) := by decide +kernel
theorem d_Q_serve_156 : decode prog_1_method_51_code 156 = .ok (.invokevirtual 375, 3) := by decide +kernel
theorem d_Q_serve_159 : decode prog_1_method_51_code 159 = .ok (.goto 105, 3) := by decide +kernel
theorem d_Q_serve_162 : decode prog_1_method_51_code 162 = .ok (.aload_n 0, 1) := by decide +kernel
theorem d_Q_serve_163 : decode prog_1_method_51_code 163 = .ok (.getfield 29, 3) := by decide +kernel
theorem d_Q_serve_166 : decode prog_1_method_51_code 166 = .ok (.bipush 11, 2) := by decide +kernel
theorem d_Q_serve_168 : decode prog_1_method_51_code 168 = .ok (.putfield 175, 3) := by decide +kernel
theorem d_Q_serve_171 : decode prog_1_method_51_code 171 = .ok (.aload_n 0, 1) := by decide +kernel
theorem d_Q_serve_172 : decode prog_1_method_51_code 172 = .ok (.getfield 29, 3) := by decide +kernel
theorem d_Q_serve_175 : decode prog_1_method_51_code 175 = .ok (.getfield 142, 3) := by decide +kernel
theorem d_Q_serve_178 : decode prog_1_method_51_code 178 = .ok (.aload_n 1, 1) := by decide +kernel
theorem d_Q_serve_179 : decode prog_1_method_51_code 179 = .ok (.getfield 146, 3) := by decide +kernel
theorem d_Q_serve_182 : decode prog_1_method_51_code 182 = .ok (.invokevirtual 149, 3) := by decide +kernel
theorem d_Q_serve_185 : decode prog_1_method_51_code 185 = .ok (.goto 79, 3) := by decide +kernel
theorem d_Q_serve_188 : decode prog_1_method_51_code 188 = .ok (.aload_n 0, 1) := by decide +kernel
theorem d_Q_serve_189 : decode prog_1_method_51_code 189 = .ok (.getfield 29, 3) := by decide +kernel
theorem d_Q_serve_192 : decode prog_1_method_51_code 192 = .ok (.bipush 13, 2) := by decide +kernel
theorem d_Q_serve_194 : decode prog_1_method_51_code 194 = .ok (.putfield 175, 3) := by decide +kernel
theorem d_Q_serve_197 : decode prog_1_method_51_code 197 = .ok (.aload_n 1, 1) := by decide +kernel
theorem d_Q_serve_198 : decode prog_1_method_51_code 198 = .ok (.aload_n 2, 1) := by decide +kernel
theorem d_Q_serve_199 : decode prog_1_method_51_code 199 = .ok (.getfield 142, 3) := by decide +kernel
theorem d_Q_serve_202 : decode prog_1_method_51_code 202 = .ok (.bipush 15, 2) := by decide +kernel
theorem d_Q_serve_204 : decode prog_1_method_51_code 204 = .ok (.invokevirtual 325, 3) := by decide +kernel
theorem d_Q_serve_207 : decode prog_1_method_51_code 207 = .ok (.goto 57, 3) := by decide +kernel
theorem d_Q_serve_210 : decode prog_1_method_51_code 210 = .ok (.aload_n 1, 1) := by decide +kernel
theorem d_Q_serve_211 : decode prog_1_method_51_code 211 = .ok (.aload_n 2, 1) := by decide +kernel
theorem d_Q_serve_212 : decode prog_1_method_51_code 212 = .ok (.getfield 142, 3) := by decide +kernel
theorem d_Q_serve_215 : decode prog_1_method_51_code 215 = .ok (.bipush 15, 2) := by decide +kernel
theorem d_Q_serve_217 : decode prog_1_method_51_code 217 = .ok (.invokevirtual 325, 3) := by decide +kernel
theorem d_Q_serve_220 : decode prog_1_method_51_code 220 = .ok (.goto 44, 3) := by decide +kernel
theorem d_Q_serve_223 : decode prog_1_method_51_code 223 = .ok (.aload_n 0, 1) := by decide +kernel
theorem d_Q_serve_224 : decode prog_1_method_51_code 224 = .ok (.getfield 29, 3) := by decide +kernel
theorem d_Q_serve_227 : decode prog_1_method_51_code 227 = .ok (.aload_n 1, 1) := by decide +kernel
theorem d_Q_serve_228 : decode prog_1_method_51_code 228 = .ok (.getfield 55, 3) := by decide +kernel
theorem d_Q_serve_231 : decode prog_1_method_51_code 231 = .ok (.iconst 1, 1) := by decide +kernel
theorem d_Q_serve_232 : decode prog_1_method_51_code 232 = .ok (.invokevirtual 101, 3) := by decide +kernel
theorem d_Q_serve_235 : decode prog_1_method_51_code 235 = .ok (.ifCond .eq 8, 3) := by decide +kernel
theorem d_Q_serve_238 : decode prog_1_method_51_code 238 = .ok (.bipush 14, 2) := by decide +kernel
theorem d_Q_serve_240 : decode prog_1_method_51_code 240 = .ok (.goto 4, 3) := by decide +kernel
theorem d_Q_serve_243 : decode prog_1_method_51_code 243 = .ok (.iconst 0, 1) := by decide +kernel
theorem d_Q_serve_244 : decode prog_1_method_51_code 244 = .ok (.putfield 175, 3) := by decide +kernel
theorem d_Q_serve_247 : decode prog_1_method_51_code 247 = .ok (.aload_n 0, 1) := by decide +kernel
theorem d_Q_serve_248 : decode prog_1_method_51_code 248 = .ok (.getfield 29, 3) := by decide +kernel
theorem d_Q_serve_251 : decode prog_1_method_51_code 251 = .ok (.getfield 142, 3) := by decide +kernel
theorem d_Q_serve_254 : decode prog_1_method_51_code 254 = .ok (.aload_n 1, 1) := by decide +kernel
theorem d_Q_serve_255 : decode prog_1_method_51_code 255 = .ok (.getfield 146, 3) := by decide +kernel
theorem d_Q_serve_258 : decode prog_1_method_51_code 258 = .ok (.invokevirtual 149, 3) := by decide +kernel
theorem d_Q_serve_261 : decode prog_1_method_51_code 261 = .ok (.goto 3, 3) := by decide +kernel
theorem d_Q_serve_264 : decode prog_1_method_51_code 264 = .ok (.return_, 1) := by decide +kernel
theorem d_Q_vote_0 : decode prog_1_method_52_code 0 = .ok (.aload_n 2, 1) := by decide +kernel
theorem d_Q_vote_1 : decode prog_1_method_52_code 1 = .ok (.getfield 275, 3) := by decide +kernel
theorem d_Q_vote_4 : decode prog_1_method_52_code 4 = .ok (.istore_n 3, 1) := by decide +kernel
theorem d_Q_vote_5 : decode prog_1_method_52_code 5 = .ok (.aload_n 1, 1) := by decide +kernel
theorem d_Q_vote_6 : decode prog_1_method_52_code 6 = .ok (.getfield 234, 3) := by decide +kernel
theorem d_Q_vote_9 : decode prog_1_method_52_code 9 = .ok (.iload_n 3, 1) := by decide +kernel
theorem d_Q_vote_10 : decode prog_1_method_52_code 10 = .ok (.invokevirtual 238, 3) := by decide +kernel
theorem d_Q_vote_13 : decode prog_1_method_52_code 13 = .ok (.istore 4, 2) := by decide +kernel
theorem d_Q_vote_15 : decode prog_1_method_52_code 15 = .ok (.aload_n 0, 1) := by decide +kernel
theorem d_Q_vote_16 : decode prog_1_method_52_code 16 = .ok (.getfield 29, 3) := by decide +kernel
theorem d_Q_vote_19 : decode prog_1_method_52_code 19 = .ok (.iload_n 3, 1) := by decide +kernel
theorem d_Q_vote_20 : decode prog_1_method_52_code 20 = .ok (.putfield 275, 3) := by decide +kernel
theorem d_Q_vote_23 : decode prog_1_method_52_code 23 = .ok (.aload_n 2, 1) := by decide +kernel
theorem d_Q_vote_24 : decode prog_1_method_52_code 24 = .ok (.getfield 175, 3) := by decide +kernel
theorem d_Q_vote_27 : decode prog_1_method_52_code 27 = .ok (.iconst 5, 1) := by decide +kernel
theorem d_Q_vote_28 : decode prog_1_method_52_code 28 = .ok (.if_icmp .ne 87, 3) := by decide +kernel
theorem d_Q_vote_31 : decode prog_1_method_52_code 31 = .ok (.aload_n 2, 1) := by decide +kernel
theorem d_Q_vote_32 : decode prog_1_method_52_code 32 = .ok (.getfield 279, 3) := by decide +kernel
theorem d_Q_vote_35 : decode prog_1_method_52_code 35 = .ok (.iload 4, 2) := by decide +kernel
theorem d_Q_vote_37 : decode prog_1_method_52_code 37 = .ok (.if_icmp .le 78, 3) := by decide +kernel
theorem d_Q_vote_40 : decode prog_1_method_52_code 40 = .ok (.aload_n 0, 1) := by decide +kernel
theorem d_Q_vote_41 : decode prog_1_method_52_code 41 = .ok (.getfield 29, 3) := by decide +kernel
theorem d_Q_vote_44 : decode prog_1_method_52_code 44 = .ok (.bipush 6, 2) := by decide +kernel
theorem d_Q_vote_46 : decode prog_1_method_52_code 46 = .ok (.putfield 175, 3) := by decide +kernel
theorem d_Q_vote_49 : decode prog_1_method_52_code 49 = .ok (.aload_n 0, 1) := by decide +kernel
theorem d_Q_vote_50 : decode prog_1_method_52_code 50 = .ok (.getfield 29, 3) := by decide +kernel
theorem d_Q_vote_53 : decode prog_1_method_52_code 53 = .ok (.aload_n 1, 1) := by decide +kernel
theorem d_Q_vote_54 : decode prog_1_method_52_code 54 = .ok (.getfield 234, 3) := by decide +kernel
theorem d_Q_vote_57 : decode prog_1_method_52_code 57 = .ok (.iload_n 3, 1) := by decide +kernel
theorem d_Q_vote_58 : decode prog_1_method_52_code 58 = .ok (.invokevirtual 243, 3) := by decide +kernel
theorem d_Q_vote_61 : decode prog_1_method_52_code 61 = .ok (.putfield 279, 3) := by decide +kernel
theorem d_Q_vote_64 : decode prog_1_method_52_code 64 = .ok (.aload_n 0, 1) := by decide +kernel
theorem d_Q_vote_65 : decode prog_1_method_52_code 65 = .ok (.getfield 29, 3) := by decide +kernel
theorem d_Q_vote_68 : decode prog_1_method_52_code 68 = .ok (.aload_n 1, 1) := by decide +kernel
theorem d_Q_vote_69 : decode prog_1_method_52_code 69 = .ok (.getfield 234, 3) := by decide +kernel
theorem d_Q_vote_72 : decode prog_1_method_52_code 72 = .ok (.iload_n 3, 1) := by decide +kernel
theorem d_Q_vote_73 : decode prog_1_method_52_code 73 = .ok (.invokevirtual 246, 3) := by decide +kernel
theorem d_Q_vote_76 : decode prog_1_method_52_code 76 = .ok (.putfield 280, 3) := by decide +kernel
theorem d_Q_vote_79 : decode prog_1_method_52_code 79 = .ok (.aload_n 1, 1) := by decide +kernel
theorem d_Q_vote_80 : decode prog_1_method_52_code 80 = .ok (.invokevirtual 198, 3) := by decide +kernel
theorem d_Q_vote_83 : decode prog_1_method_52_code 83 = .ok (.ifCond .eq 134, 3) := by decide +kernel
theorem d_Q_vote_86 : decode prog_1_method_52_code 86 = .ok (.aload_n 1, 1) := by decide +kernel
theorem d_Q_vote_87 : decode prog_1_method_52_code 87 = .ok (.getfield 234, 3) := by decide +kernel
theorem d_Q_vote_90 : decode prog_1_method_52_code 90 = .ok (.iload_n 3, 1) := by decide +kernel
theorem d_Q_vote_91 : decode prog_1_method_52_code 91 = .ok (.aload_n 2, 1) := by decide +kernel
theorem d_Q_vote_92 : decode prog_1_method_52_code 92 = .ok (.getfield 279, 3) := by decide +kernel
theorem d_Q_vote_95 : decode prog_1_method_52_code 95 = .ok (.aload_n 0, 1) := by decide +kernel
theorem d_Q_vote_96 : decode prog_1_method_52_code 96 = .ok (.getfield 29, 3) := by decide +kernel
theorem d_Q_vote_99 : decode prog_1_method_52_code 99 = .ok (.getfield 279, 3) := by decide +kernel
theorem d_Q_vote_102 : decode prog_1_method_52_code 102 = .ok (.aload_n 0, 1) := by decide +kernel
theorem d_Q_vote_103 : decode prog_1_method_52_code 103 = .ok (.getfield 29, 3) := by decide +kernel
theorem d_Q_vote_106 : decode prog_1_method_52_code 106 = .ok (.getfield 280, 3) := by decide +kernel
theorem d_Q_vote_109 : decode prog_1_method_52_code 109 = .ok (.invokevirtual 378, 3) := by decide +kernel
theorem d_Q_vote_112 : decode prog_1_method_52_code 112 = .ok (.goto 105, 3) := by decide +kernel
theorem d_Q_vote_115 : decode prog_1_method_52_code 115 = .ok (.aload_n 2, 1) := by decide +kernel
theorem d_Q_vote_116 : decode prog_1_method_52_code 116 = .ok (.getfield 175, 3) := by decide +kernel
theorem d_Q_vote_119 : decode prog_1_method_52_code 119 = .ok (.bipush 7, 2) := by decide +kernel
theorem d_Q_vote_121 : decode prog_1_method_52_code 121 = .ok (.if_icmp .ne 78, 3) := by decide +kernel
theorem d_Q_vote_124 : decode prog_1_method_52_code 124 = .ok (.aload_n 2, 1) := by decide +kernel
theorem d_Q_vote_125 : decode prog_1_method_52_code 125 = .ok (.getfield 279, 3) := by decide +kernel
theorem d_Q_vote_128 : decode prog_1_method_52_code 128 = .ok (.iload 4, 2) := by decide +kernel
theorem d_Q_vote_130 : decode prog_1_method_52_code 130 = .ok (.if_icmp .lt 69, 3) := by decide +kernel
theorem d_Q_vote_133 : decode prog_1_method_52_code 133 = .ok (.aload_n 0, 1) := by decide +kernel
theorem d_Q_vote_134 : decode prog_1_method_52_code 134 = .ok (.getfield 29, 3) := by decide +kernel
theorem d_Q_vote_137 : decode prog_1_method_52_code 137 = .ok (.bipush 8, 2) := by decide +kernel
theorem d_Q_vote_139 : decode prog_1_method_52_code 139 = .ok (.putfield 175, 3) := by decide +kernel
theorem d_Q_vote_142 : decode prog_1_method_52_code 142 = .ok (.aload_n 1, 1) := by decide +kernel
theorem d_Q_vote_143 : decode prog_1_method_52_code 143 = .ok (.getfield 234, 3) := by decide +kernel
theorem d_Q_vote_146 : decode prog_1_method_52_code 146 = .ok (.iload_n 3, 1) := by decide +kernel
theorem d_Q_vote_147 : decode prog_1_method_52_code 147 = .ok (.aload_n 2, 1) := by decide +kernel
theorem d_Q_vote_148 : decode prog_1_method_52_code 148 = .ok (.getfield 279, 3) := by decide +kernel
theorem d_Q_vote_151 : decode prog_1_method_52_code 151 = .ok (.aload_n 2, 1) := by decide +kernel
theorem d_Q_vote_152 : decode prog_1_method_52_code 152 = .ok (.getfield 279, 3) := by decide +kernel
theorem d_Q_vote_155 : decode prog_1_method_52_code 155 = .ok (.aload_n 2, 1) := by decide +kernel
theorem d_Q_vote_156 : decode prog_1_method_52_code 156 = .ok (.getfield 280, 3) := by decide +kernel
theorem d_Q_vote_159 : decode prog_1_method_52_code 159 = .ok (.invokevirtual 379, 3) := by decide +kernel
theorem d_Q_vote_162 : decode prog_1_method_52_code 162 = .ok (.istore 5, 2) := by decide +kernel
theorem d_Q_vote_164 : decode prog_1_method_52_code 164 = .ok (.iload 5, 2) := by decide +kernel
theorem d_Q_vote_166 : decode prog_1_method_52_code 166 = .ok (.ifCond .ne 30, 3) := by decide +kernel
theorem d_Q_vote_169 : decode prog_1_method_52_code 169 = .ok (.aload_n 1, 1) := by decide +kernel
theorem d_Q_vote_170 : decode prog_1_method_52_code 170 = .ok (.invokevirtual 198, 3) := by decide +kernel
theorem d_Q_vote_173 : decode prog_1_method_52_code 173 = .ok (.ifCond .eq 23, 3) := by decide +kernel
theorem d_Q_vote_176 : decode prog_1_method_52_code 176 = .ok (.aload_n 1, 1) := by decide +kernel
theorem d_Q_vote_177 : decode prog_1_method_52_code 177 = .ok (.getfield 234, 3) := by decide +kernel
theorem d_Q_vote_180 : decode prog_1_method_52_code 180 = .ok (.iload_n 3, 1) := by decide +kernel
theorem d_Q_vote_181 : decode prog_1_method_52_code 181 = .ok (.aload_n 2, 1) := by decide +kernel
theorem d_Q_vote_182 : decode prog_1_method_52_code 182 = .ok (.getfield 279, 3) := by decide +kernel
theorem d_Q_vote_185 : decode prog_1_method_52_code 185 = .ok (.aload_n 2, 1) := by decide +kernel
theorem d_Q_vote_186 : decode prog_1_method_52_code 186 = .ok (.getfield 279, 3) := by decide +kernel
theorem d_Q_vote_189 : decode prog_1_method_52_code 189 = .ok (.aload_n 2, 1) := by decide +kernel
theorem d_Q_vote_190 : decode prog_1_method_52_code 190 = .ok (.getfield 280, 3) := by decide +kernel
theorem d_Q_vote_193 : decode prog_1_method_52_code 193 = .ok (.invokevirtual 378, 3) := by decide +kernel
theorem d_Q_vote_196 : decode prog_1_method_52_code 196 = .ok (.goto 21, 3) := by decide +kernel
theorem d_Q_vote_199 : decode prog_1_method_52_code 199 = .ok (.aload_n 0, 1) := by decide +kernel
theorem d_Q_vote_200 : decode prog_1_method_52_code 200 = .ok (.getfield 29, 3) := by decide +kernel
theorem d_Q_vote_203 : decode prog_1_method_52_code 203 = .ok (.bipush 9, 2) := by decide +kernel
theorem d_Q_vote_205 : decode prog_1_method_52_code 205 = .ok (.putfield 175, 3) := by decide +kernel
theorem d_Q_vote_208 : decode prog_1_method_52_code 208 = .ok (.aload_n 0, 1) := by decide +kernel
theorem d_Q_vote_209 : decode prog_1_method_52_code 209 = .ok (.getfield 29, 3) := by decide +kernel
theorem d_Q_vote_212 : decode prog_1_method_52_code 212 = .ok (.iload 4, 2) := by decide +kernel
theorem d_Q_vote_214 : decode prog_1_method_52_code 214 = .ok (.putfield 279, 3) := by decide +kernel
theorem d_Q_vote_217 : decode prog_1_method_52_code 217 = .ok (.return_, 1) := by decide +kernel
theorem d_Q_sendReply_0 : decode prog_1_method_53_code 0 = .ok (.aload_n 1, 1) := by decide +kernel
theorem d_Q_sendReply_1 : decode prog_1_method_53_code 1 = .ok (.invokevirtual 129, 3) := by decide +kernel
theorem d_Q_sendReply_4 : decode prog_1_method_53_code 4 = .ok (.ifCond .eq 38, 3) := by decide +kernel
theorem d_Q_sendReply_7 : decode prog_1_method_53_code 7 = .ok (.aload_n 0, 1) := by decide +kernel
theorem d_Q_sendReply_8 : decode prog_1_method_53_code 8 = .ok (.getfield 29, 3) := by decide +kernel
theorem d_Q_sendReply_11 : decode prog_1_method_53_code 11 = .ok (.getfield 175, 3) := by decide +kernel
theorem d_Q_sendReply_14 : decode prog_1_method_53_code 14 = .ok (.ifCond .eq 28, 3) := by decide +kernel
theorem d_Q_sendReply_17 : decode prog_1_method_53_code 17 = .ok (.aload_n 0, 1) := by decide +kernel
theorem d_Q_sendReply_18 : decode prog_1_method_53_code 18 = .ok (.getfield 29, 3) := by decide +kernel
theorem d_Q_sendReply_21 : decode prog_1_method_53_code 21 = .ok (.getfield 166, 3) := by decide +kernel
theorem d_Q_sendReply_24 : decode prog_1_method_53_code 24 = .ok (.aload_n 1, 1) := by decide +kernel
theorem d_Q_sendReply_25 : decode prog_1_method_53_code 25 = .ok (.getfield 55, 3) := by decide +kernel
theorem d_Q_sendReply_28 : decode prog_1_method_53_code 28 = .ok (.invokevirtual 383, 3) := by decide +kernel
theorem d_Q_sendReply_31 : decode prog_1_method_53_code 31 = .ok (.aload_n 0, 1) := by decide +kernel
theorem d_Q_sendReply_32 : decode prog_1_method_53_code 32 = .ok (.getfield 18, 3) := by decide +kernel
theorem d_Q_sendReply_35 : decode prog_1_method_53_code 35 = .ok (.aload_n 0, 1) := by decide +kernel
theorem d_Q_sendReply_36 : decode prog_1_method_53_code 36 = .ok (.getfield 29, 3) := by decide +kernel
theorem d_Q_sendReply_39 : decode prog_1_method_53_code 39 = .ok (.invokevirtual 155, 3) := by decide +kernel
theorem d_Q_sendReply_42 : decode prog_1_method_53_code 42 = .ok (.return_, 1) := by decide +kernel
theorem d_Q_hear_0 : decode prog_1_method_54_code 0 = .ok (.aload_n 0, 1) := by decide +kernel
theorem d_Q_hear_1 : decode prog_1_method_54_code 1 = .ok (.getfield 84, 3) := by decide +kernel
theorem d_Q_hear_4 : decode prog_1_method_54_code 4 = .ok (.astore_n 2, 1) := by decide +kernel
theorem d_Q_hear_5 : decode prog_1_method_54_code 5 = .ok (.aload_n 0, 1) := by decide +kernel
theorem d_Q_hear_6 : decode prog_1_method_54_code 6 = .ok (.invokevirtual 119, 3) := by decide +kernel
theorem d_Q_hear_9 : decode prog_1_method_54_code 9 = .ok (.ifCond .eq 25, 3) := by decide +kernel
theorem d_Q_hear_12 : decode prog_1_method_54_code 12 = .ok (.aload_n 1, 1) := by decide +kernel
theorem d_Q_hear_13 : decode prog_1_method_54_code 13 = .ok (.getfield 273, 3) := by decide +kernel
theorem d_Q_hear_16 : decode prog_1_method_54_code 16 = .ok (.aload_n 0, 1) := by decide +kernel
theorem d_Q_hear_17 : decode prog_1_method_54_code 17 = .ok (.getfield 201, 3) := by decide +kernel
theorem d_Q_hear_20 : decode prog_1_method_54_code 20 = .ok (.if_icmp .ne 14, 3) := by decide +kernel
theorem d_Q_hear_23 : decode prog_1_method_54_code 23 = .ok (.aload_n 1, 1) := by decide +kernel
theorem d_Q_hear_24 : decode prog_1_method_54_code 24 = .ok (.getfield 274, 3) := by decide +kernel
theorem d_Q_hear_27 : decode prog_1_method_54_code 27 = .ok (.aload_n 0, 1) := by decide +kernel
theorem d_Q_hear_28 : decode prog_1_method_54_code 28 = .ok (.getfield 213, 3) := by decide +kernel
theorem d_Q_hear_31 : decode prog_1_method_54_code 31 = .ok (.if_icmp .eq 4, 3) := by decide +kernel
theorem d_Q_hear_34 : decode prog_1_method_54_code 34 = .ok (.return_, 1) := by decide +kernel
theorem d_Q_hear_35 : decode prog_1_method_54_code 35 = .ok (.aload_n 2, 1) := by decide +kernel
theorem d_Q_hear_36 : decode prog_1_method_54_code 36 = .ok (.getfield 135, 3) := by decide +kernel
theorem d_Q_hear_39 : decode prog_1_method_54_code 39 = .ok (.aload_n 1, 1) := by decide +kernel
theorem d_Q_hear_40 : decode prog_1_method_54_code 40 = .ok (.getfield 270, 3) := by decide +kernel
theorem d_Q_hear_43 : decode prog_1_method_54_code 43 = .ok (.invokestatic 298, 3) := by decide +kernel
theorem d_Q_hear_46 : decode prog_1_method_54_code 46 = .ok (.ifCond .eq 4, 3) := by decide +kernel
theorem d_Q_hear_49 : decode prog_1_method_54_code 49 = .ok (.return_, 1) := by decide +kernel
theorem d_Q_hear_50 : decode prog_1_method_54_code 50 = .ok (.aload_n 1, 1) := by decide +kernel
theorem d_Q_hear_51 : decode prog_1_method_54_code 51 = .ok (.getfield 175, 3) := by decide +kernel
theorem d_Q_hear_54 : decode prog_1_method_54_code 54 = .ok (.bipush 9, 2) := by decide +kernel
theorem d_Q_hear_56 : decode prog_1_method_54_code 56 = .ok (.if_icmp .ne 15, 3) := by decide +kernel
theorem d_Q_hear_59 : decode prog_1_method_54_code 59 = .ok (.aload_n 0, 1) := by decide +kernel
theorem d_Q_hear_60 : decode prog_1_method_54_code 60 = .ok (.aload_n 1, 1) := by decide +kernel
theorem d_Q_hear_61 : decode prog_1_method_54_code 61 = .ok (.getfield 279, 3) := by decide +kernel
theorem d_Q_hear_64 : decode prog_1_method_54_code 64 = .ok (.bipush 8, 2) := by decide +kernel
theorem d_Q_hear_66 : decode prog_1_method_54_code 66 = .ok (.idiv, 1) := by decide +kernel
theorem d_Q_hear_67 : decode prog_1_method_54_code 67 = .ok (.invokevirtual 313, 3) := by decide +kernel
theorem d_Q_hear_70 : decode prog_1_method_54_code 70 = .ok (.return_, 1) := by decide +kernel
theorem d_Q_hear_71 : decode prog_1_method_54_code 71 = .ok (.aload_n 2, 1) := by decide +kernel
theorem d_Q_hear_72 : decode prog_1_method_54_code 72 = .ok (.dup, 1) := by decide +kernel
theorem d_Q_hear_73 : decode prog_1_method_54_code 73 = .ok (.getfield 135, 3) := by decide +kernel
theorem d_Q_hear_76 : decode prog_1_method_54_code 76 = .ok (.iconst 1, 1) := by decide +kernel
theorem d_Q_hear_77 : decode prog_1_method_54_code 77 = .ok (.aload_n 1, 1) := by decide +kernel
theorem d_Q_hear_78 : decode prog_1_method_54_code 78 = .ok (.getfield 270, 3) := by decide +kernel
theorem d_Q_hear_81 : decode prog_1_method_54_code 81 = .ok (.ishl, 1) := by decide +kernel
theorem d_Q_hear_82 : decode prog_1_method_54_code 82 = .ok (.ior, 1) := by decide +kernel
theorem d_Q_hear_83 : decode prog_1_method_54_code 83 = .ok (.putfield 135, 3) := by decide +kernel
theorem d_Q_hear_86 : decode prog_1_method_54_code 86 = .ok (.aload_n 1, 1) := by decide +kernel
theorem d_Q_hear_87 : decode prog_1_method_54_code 87 = .ok (.getfield 175, 3) := by decide +kernel
theorem d_Q_hear_90 : decode prog_1_method_54_code 90 = .ok (.iconst 2, 1) := by decide +kernel
theorem d_Q_hear_91 : decode prog_1_method_54_code 91 = .ok (.if_icmp .ne 23, 3) := by decide +kernel
theorem d_Q_hear_94 : decode prog_1_method_54_code 94 = .ok (.aload_n 2, 1) := by decide +kernel
theorem d_Q_hear_95 : decode prog_1_method_54_code 95 = .ok (.getfield 264, 3) := by decide +kernel
theorem d_Q_hear_98 : decode prog_1_method_54_code 98 = .ok (.aload_n 1, 1) := by decide +kernel
theorem d_Q_hear_99 : decode prog_1_method_54_code 99 = .ok (.getfield 142, 3) := by decide +kernel
theorem d_Q_hear_102 : decode prog_1_method_54_code 102 = .ok (.iconst 1, 1) := by decide +kernel
theorem d_Q_hear_103 : decode prog_1_method_54_code 103 = .ok (.aload_n 1, 1) := by decide +kernel
theorem d_Q_hear_104 : decode prog_1_method_54_code 104 = .ok (.getfield 275, 3) := by decide +kernel
theorem d_Q_hear_107 : decode prog_1_method_54_code 107 = .ok (.ishl, 1) := by decide +kernel
theorem d_Q_hear_108 : decode prog_1_method_54_code 108 = .ok (.invokevirtual 386, 3) := by decide +kernel
theorem d_Q_hear_111 : decode prog_1_method_54_code 111 = .ok (.goto 64, 3) := by decide +kernel
theorem d_Q_hear_114 : decode prog_1_method_54_code 114 = .ok (.aload_n 1, 1) := by decide +kernel
theorem d_Q_hear_115 : decode prog_1_method_54_code 115 = .ok (.getfield 175, 3) := by decide +kernel
theorem d_Q_hear_118 : decode prog_1_method_54_code 118 = .ok (.bipush 11, 2) := by decide +kernel
theorem d_Q_hear_120 : decode prog_1_method_54_code 120 = .ok (.if_icmp .ne 19, 3) := by decide +kernel
theorem d_Q_hear_123 : decode prog_1_method_54_code 123 = .ok (.aload_n 2, 1) := by decide +kernel
theorem d_Q_hear_124 : decode prog_1_method_54_code 124 = .ok (.getfield 264, 3) := by decide +kernel
theorem d_Q_hear_127 : decode prog_1_method_54_code 127 = .ok (.aload_n 1, 1) := by decide +kernel
theorem d_Q_hear_128 : decode prog_1_method_54_code 128 = .ok (.getfield 142, 3) := by decide +kernel
theorem d_Q_hear_131 : decode prog_1_method_54_code 131 = .ok (.bipush 15, 2) := by decide +kernel
theorem d_Q_hear_133 : decode prog_1_method_54_code 133 = .ok (.invokevirtual 386, 3) := by decide +kernel
theorem d_Q_hear_136 : decode prog_1_method_54_code 136 = .ok (.goto 39, 3) := by decide +kernel
theorem d_Q_hear_139 : decode prog_1_method_54_code 139 = .ok (.aload_n 1, 1) := by decide +kernel
theorem d_Q_hear_140 : decode prog_1_method_54_code 140 = .ok (.getfield 175, 3) := by decide +kernel
theorem d_Q_hear_143 : decode prog_1_method_54_code 143 = .ok (.bipush 6, 2) := by decide +kernel
theorem d_Q_hear_145 : decode prog_1_method_54_code 145 = .ok (.if_icmp .ne 30, 3) := by decide +kernel
theorem d_Q_hear_148 : decode prog_1_method_54_code 148 = .ok (.aload_n 1, 1) := by decide +kernel
theorem d_Q_hear_149 : decode prog_1_method_54_code 149 = .ok (.getfield 279, 3) := by decide +kernel
theorem d_Q_hear_152 : decode prog_1_method_54_code 152 = .ok (.aload_n 2, 1) := by decide +kernel
theorem d_Q_hear_153 : decode prog_1_method_54_code 153 = .ok (.getfield 307, 3) := by decide +kernel
theorem d_Q_hear_156 : decode prog_1_method_54_code 156 = .ok (.if_icmp .le 19, 3) := by decide +kernel
theorem d_Q_hear_159 : decode prog_1_method_54_code 159 = .ok (.aload_n 2, 1) := by decide +kernel
theorem d_Q_hear_160 : decode prog_1_method_54_code 160 = .ok (.aload_n 1, 1) := by decide +kernel
theorem d_Q_hear_161 : decode prog_1_method_54_code 161 = .ok (.getfield 279, 3) := by decide +kernel
theorem d_Q_hear_164 : decode prog_1_method_54_code 164 = .ok (.putfield 307, 3) := by decide +kernel
theorem d_Q_hear_167 : decode prog_1_method_54_code 167 = .ok (.aload_n 2, 1) := by decide +kernel
theorem d_Q_hear_168 : decode prog_1_method_54_code 168 = .ok (.aload_n 1, 1) := by decide +kernel
theorem d_Q_hear_169 : decode prog_1_method_54_code 169 = .ok (.getfield 280, 3) := by decide +kernel
theorem d_Q_hear_172 : decode prog_1_method_54_code 172 = .ok (.putfield 310, 3) := by decide +kernel
theorem d_Q_hear_175 : decode prog_1_method_54_code 175 = .ok (.return_, 1) := by decide +kernel
theorem d_M_init_0 : decode prog_10_method_1_code 0 = .ok (.aload_n 0, 1) := by decide +kernel
theorem d_M_init_1 : decode prog_10_method_1_code 1 = .ok (.invokespecial 1, 3) := by decide +kernel
theorem d_M_init_4 : decode prog_10_method_1_code 4 = .ok (.aload_n 0, 1) := by decide +kernel
theorem d_M_init_5 : decode prog_10_method_1_code 5 = .ok (.bipush 8, 2) := by decide +kernel
theorem d_M_init_7 : decode prog_10_method_1_code 7 = .ok (.newarray .int, 2) := by decide +kernel
theorem d_M_init_9 : decode prog_10_method_1_code 9 = .ok (.putfield 9, 3) := by decide +kernel
theorem d_M_init_12 : decode prog_10_method_1_code 12 = .ok (.aload_n 0, 1) := by decide +kernel
theorem d_M_init_13 : decode prog_10_method_1_code 13 = .ok (.bipush 8, 2) := by decide +kernel
theorem d_M_init_15 : decode prog_10_method_1_code 15 = .ok (.newarray .int, 2) := by decide +kernel
theorem d_M_init_17 : decode prog_10_method_1_code 17 = .ok (.putfield 13, 3) := by decide +kernel
theorem d_M_init_20 : decode prog_10_method_1_code 20 = .ok (.aload_n 0, 1) := by decide +kernel
theorem d_M_init_21 : decode prog_10_method_1_code 21 = .ok (.bipush 8, 2) := by decide +kernel
theorem d_M_init_23 : decode prog_10_method_1_code 23 = .ok (.newarray .int, 2) := by decide +kernel
theorem d_M_init_25 : decode prog_10_method_1_code 25 = .ok (.putfield 16, 3) := by decide +kernel
theorem d_M_init_28 : decode prog_10_method_1_code 28 = .ok (.aload_n 0, 1) := by decide +kernel
theorem d_M_init_29 : decode prog_10_method_1_code 29 = .ok (.bipush 8, 2) := by decide +kernel
theorem d_M_init_31 : decode prog_10_method_1_code 31 = .ok (.newarray .int, 2) := by decide +kernel
theorem d_M_init_33 : decode prog_10_method_1_code 33 = .ok (.putfield 19, 3) := by decide +kernel
theorem d_M_init_36 : decode prog_10_method_1_code 36 = .ok (.aload_n 0, 1) := by decide +kernel
theorem d_M_init_37 : decode prog_10_method_1_code 37 = .ok (.bipush 8, 2) := by decide +kernel
theorem d_M_init_39 : decode prog_10_method_1_code 39 = .ok (.newarray .int, 2) := by decide +kernel
theorem d_M_init_41 : decode prog_10_method_1_code 41 = .ok (.putfield 22, 3) := by decide +kernel
theorem d_M_init_44 : decode prog_10_method_1_code 44 = .ok (.aload_n 0, 1) := by decide +kernel
theorem d_M_init_45 : decode prog_10_method_1_code 45 = .ok (.bipush 32, 2) := by decide +kernel
theorem d_M_init_47 : decode prog_10_method_1_code 47 = .ok (.newarray .int, 2) := by decide +kernel
theorem d_M_init_49 : decode prog_10_method_1_code 49 = .ok (.putfield 25, 3) := by decide +kernel
theorem d_M_init_52 : decode prog_10_method_1_code 52 = .ok (.aload_n 0, 1) := by decide +kernel
theorem d_M_init_53 : decode prog_10_method_1_code 53 = .ok (.bipush 32, 2) := by decide +kernel
theorem d_M_init_55 : decode prog_10_method_1_code 55 = .ok (.newarray .int, 2) := by decide +kernel
theorem d_M_init_57 : decode prog_10_method_1_code 57 = .ok (.putfield 28, 3) := by decide +kernel
theorem d_M_init_60 : decode prog_10_method_1_code 60 = .ok (.aload_n 0, 1) := by decide +kernel
theorem d_M_init_61 : decode prog_10_method_1_code 61 = .ok (.bipush 32, 2) := by decide +kernel
theorem d_M_init_63 : decode prog_10_method_1_code 63 = .ok (.newarray .int, 2) := by decide +kernel
theorem d_M_init_65 : decode prog_10_method_1_code 65 = .ok (.putfield 31, 3) := by decide +kernel
theorem d_M_init_68 : decode prog_10_method_1_code 68 = .ok (.aload_n 0, 1) := by decide +kernel
theorem d_M_init_69 : decode prog_10_method_1_code 69 = .ok (.sipush 128, 3) := by decide +kernel
theorem d_M_init_72 : decode prog_10_method_1_code 72 = .ok (.newarray .int, 2) := by decide +kernel
theorem d_M_init_74 : decode prog_10_method_1_code 74 = .ok (.putfield 34, 3) := by decide +kernel
theorem d_M_init_77 : decode prog_10_method_1_code 77 = .ok (.aload_n 0, 1) := by decide +kernel
theorem d_M_init_78 : decode prog_10_method_1_code 78 = .ok (.sipush 128, 3) := by decide +kernel
theorem d_M_init_81 : decode prog_10_method_1_code 81 = .ok (.newarray .int, 2) := by decide +kernel
theorem d_M_init_83 : decode prog_10_method_1_code 83 = .ok (.putfield 37, 3) := by decide +kernel
theorem d_M_init_86 : decode prog_10_method_1_code 86 = .ok (.aload_n 0, 1) := by decide +kernel
theorem d_M_init_87 : decode prog_10_method_1_code 87 = .ok (.sipush 128, 3) := by decide +kernel
theorem d_M_init_90 : decode prog_10_method_1_code 90 = .ok (.newarray .int, 2) := by decide +kernel
theorem d_M_init_92 : decode prog_10_method_1_code 92 = .ok (.putfield 40, 3) := by decide +kernel
theorem d_M_init_95 : decode prog_10_method_1_code 95 = .ok (.aload_n 0, 1) := by decide +kernel
theorem d_M_init_96 : decode prog_10_method_1_code 96 = .ok (.sipush 128, 3) := by decide +kernel
theorem d_M_init_99 : decode prog_10_method_1_code 99 = .ok (.newarray .int, 2) := by decide +kernel
theorem d_M_init_101 : decode prog_10_method_1_code 101 = .ok (.putfield 43, 3) := by decide +kernel
theorem d_M_init_104 : decode prog_10_method_1_code 104 = .ok (.aload_n 0, 1) := by decide +kernel
theorem d_M_init_105 : decode prog_10_method_1_code 105 = .ok (.sipush 128, 3) := by decide +kernel
theorem d_M_init_108 : decode prog_10_method_1_code 108 = .ok (.newarray .int, 2) := by decide +kernel
theorem d_M_init_110 : decode prog_10_method_1_code 110 = .ok (.putfield 46, 3) := by decide +kernel
theorem d_M_init_113 : decode prog_10_method_1_code 113 = .ok (.aload_n 0, 1) := by decide +kernel
theorem d_M_init_114 : decode prog_10_method_1_code 114 = .ok (.bipush 8, 2) := by decide +kernel
theorem d_M_init_116 : decode prog_10_method_1_code 116 = .ok (.newarray .int, 2) := by decide +kernel
theorem d_M_init_118 : decode prog_10_method_1_code 118 = .ok (.putfield 49, 3) := by decide +kernel
theorem d_M_init_121 : decode prog_10_method_1_code 121 = .ok (.aload_n 0, 1) := by decide +kernel
theorem d_M_init_122 : decode prog_10_method_1_code 122 = .ok (.bipush 8, 2) := by decide +kernel
theorem d_M_init_124 : decode prog_10_method_1_code 124 = .ok (.newarray .int, 2) := by decide +kernel
theorem d_M_init_126 : decode prog_10_method_1_code 126 = .ok (.putfield 52, 3) := by decide +kernel
theorem d_M_init_129 : decode prog_10_method_1_code 129 = .ok (.aload_n 0, 1) := by decide +kernel
theorem d_M_init_130 : decode prog_10_method_1_code 130 = .ok (.bipush 8, 2) := by decide +kernel
theorem d_M_init_132 : decode prog_10_method_1_code 132 = .ok (.newarray .int, 2) := by decide +kernel
theorem d_M_init_134 : decode prog_10_method_1_code 134 = .ok (.putfield 55, 3) := by decide +kernel
theorem d_M_init_137 : decode prog_10_method_1_code 137 = .ok (.aload_n 0, 1) := by decide +kernel
theorem d_M_init_138 : decode prog_10_method_1_code 138 = .ok (.bipush 8, 2) := by decide +kernel
theorem d_M_init_140 : decode prog_10_method_1_code 140 = .ok (.newarray .int, 2) := by decide +kernel
theorem d_M_init_142 : decode prog_10_method_1_code 142 = .ok (.putfield 58, 3) := by decide +kernel
theorem d_M_init_145 : decode prog_10_method_1_code 145 = .ok (.aload_n 0, 1) := by decide +kernel
theorem d_M_init_146 : decode prog_10_method_1_code 146 = .ok (.bipush 8, 2) := by decide +kernel
theorem d_M_init_148 : decode prog_10_method_1_code 148 = .ok (.newarray .int, 2) := by decide +kernel
theorem d_M_init_150 : decode prog_10_method_1_code 150 = .ok (.putfield 61, 3) := by decide +kernel
theorem d_M_init_153 : decode prog_10_method_1_code 153 = .ok (.aload_n 0, 1) := by decide +kernel
theorem d_M_init_154 : decode prog_10_method_1_code 154 = .ok (.bipush 8, 2) := by decide +kernel
theorem d_M_init_156 : decode prog_10_method_1_code 156 = .ok (.newarray .int, 2) := by decide +kernel
theorem d_M_init_158 : decode prog_10_method_1_code 158 = .ok (.putfield 64, 3) := by decide +kernel
theorem d_M_init_161 : decode prog_10_method_1_code 161 = .ok (.aload_n 0, 1) := by decide +kernel
theorem d_M_init_162 : decode prog_10_method_1_code 162 = .ok (.bipush 8, 2) := by decide +kernel
theorem d_M_init_164 : decode prog_10_method_1_code 164 = .ok (.newarray .int, 2) := by decide +kernel
theorem d_M_init_166 : decode prog_10_method_1_code 166 = .ok (.putfield 67, 3) := by decide +kernel
theorem d_M_init_169 : decode prog_10_method_1_code 169 = .ok (.aload_n 0, 1) := by decide +kernel
theorem d_M_init_170 : decode prog_10_method_1_code 170 = .ok (.bipush 8, 2) := by decide +kernel
theorem d_M_init_172 : decode prog_10_method_1_code 172 = .ok (.newarray .int, 2) := by decide +kernel
theorem d_M_init_174 : decode prog_10_method_1_code 174 = .ok (.putfield 70, 3) := by decide +kernel
theorem d_M_init_177 : decode prog_10_method_1_code 177 = .ok (.aload_n 0, 1) := by decide +kernel
theorem d_M_init_178 : decode prog_10_method_1_code 178 = .ok (.bipush 8, 2) := by decide +kernel
theorem d_M_init_180 : decode prog_10_method_1_code 180 = .ok (.newarray .int, 2) := by decide +kernel
theorem d_M_init_182 : decode prog_10_method_1_code 182 = .ok (.putfield 73, 3) := by decide +kernel
theorem d_M_init_185 : decode prog_10_method_1_code 185 = .ok (.aload_n 0, 1) := by decide +kernel
theorem d_M_init_186 : decode prog_10_method_1_code 186 = .ok (.bipush 8, 2) := by decide +kernel
theorem d_M_init_188 : decode prog_10_method_1_code 188 = .ok (.newarray .int, 2) := by decide +kernel
theorem d_M_init_190 : decode prog_10_method_1_code 190 = .ok (.putfield 76, 3) := by decide +kernel
theorem d_M_init_193 : decode prog_10_method_1_code 193 = .ok (.aload_n 0, 1) := by decide +kernel
theorem d_M_init_194 : decode prog_10_method_1_code 194 = .ok (.bipush 8, 2) := by decide +kernel
theorem d_M_init_196 : decode prog_10_method_1_code 196 = .ok (.newarray .int, 2) := by decide +kernel
theorem d_M_init_198 : decode prog_10_method_1_code 198 = .ok (.putfield 79, 3) := by decide +kernel
theorem d_M_init_201 : decode prog_10_method_1_code 201 = .ok (.aload_n 0, 1) := by decide +kernel
theorem d_M_init_202 : decode prog_10_method_1_code 202 = .ok (.bipush 8, 2) := by decide +kernel
theorem d_M_init_204 : decode prog_10_method_1_code 204 = .ok (.newarray .int, 2) := by decide +kernel
theorem d_M_init_206 : decode prog_10_method_1_code 206 = .ok (.putfield 82, 3) := by decide +kernel
theorem d_M_init_209 : decode prog_10_method_1_code 209 = .ok (.aload_n 0, 1) := by decide +kernel
theorem d_M_init_210 : decode prog_10_method_1_code 210 = .ok (.bipush 8, 2) := by decide +kernel
theorem d_M_init_212 : decode prog_10_method_1_code 212 = .ok (.newarray .int, 2) := by decide +kernel
theorem d_M_init_214 : decode prog_10_method_1_code 214 = .ok (.putfield 85, 3) := by decide +kernel
theorem d_M_init_217 : decode prog_10_method_1_code 217 = .ok (.aload_n 0, 1) := by decide +kernel
theorem d_M_init_218 : decode prog_10_method_1_code 218 = .ok (.bipush 32, 2) := by decide +kernel
theorem d_M_init_220 : decode prog_10_method_1_code 220 = .ok (.newarray .int, 2) := by decide +kernel
theorem d_M_init_222 : decode prog_10_method_1_code 222 = .ok (.putfield 88, 3) := by decide +kernel
theorem d_M_init_225 : decode prog_10_method_1_code 225 = .ok (.aload_n 0, 1) := by decide +kernel
theorem d_M_init_226 : decode prog_10_method_1_code 226 = .ok (.bipush 32, 2) := by decide +kernel
theorem d_M_init_228 : decode prog_10_method_1_code 228 = .ok (.newarray .int, 2) := by decide +kernel
theorem d_M_init_230 : decode prog_10_method_1_code 230 = .ok (.putfield 91, 3) := by decide +kernel
theorem d_M_init_233 : decode prog_10_method_1_code 233 = .ok (.aload_n 0, 1) := by decide +kernel
theorem d_M_init_234 : decode prog_10_method_1_code 234 = .ok (.bipush 32, 2) := by decide +kernel
theorem d_M_init_236 : decode prog_10_method_1_code 236 = .ok (.newarray .int, 2) := by decide +kernel
theorem d_M_init_238 : decode prog_10_method_1_code 238 = .ok (.putfield 94, 3) := by decide +kernel
theorem d_M_init_241 : decode prog_10_method_1_code 241 = .ok (.aload_n 0, 1) := by decide +kernel
theorem d_M_init_242 : decode prog_10_method_1_code 242 = .ok (.sipush 6360, 3) := by decide +kernel
theorem d_M_init_245 : decode prog_10_method_1_code 245 = .ok (.newarray .int, 2) := by decide +kernel
theorem d_M_init_247 : decode prog_10_method_1_code 247 = .ok (.putfield 97, 3) := by decide +kernel
theorem d_M_init_250 : decode prog_10_method_1_code 250 = .ok (.aload_n 0, 1) := by decide +kernel
theorem d_M_init_251 : decode prog_10_method_1_code 251 = .ok (.bipush 53, 2) := by decide +kernel
theorem d_M_init_253 : decode prog_10_method_1_code 253 = .ok (.newarray .int, 2) := by decide +kernel
theorem d_M_init_255 : decode prog_10_method_1_code 255 = .ok (.putfield 100, 3) := by decide +kernel
theorem d_M_init_258 : decode prog_10_method_1_code 258 = .ok (.iload_n 1, 1) := by decide +kernel
theorem d_M_init_259 : decode prog_10_method_1_code 259 = .ok (.iconst 1, 1) := by decide +kernel
theorem d_M_init_260 : decode prog_10_method_1_code 260 = .ok (.if_icmp .ge 7, 3) := by decide +kernel
theorem d_M_init_263 : decode prog_10_method_1_code 263 = .ok (.iconst 1, 1) := by decide +kernel
theorem d_M_init_264 : decode prog_10_method_1_code 264 = .ok (.goto 15, 3) := by decide +kernel
theorem d_M_init_267 : decode prog_10_method_1_code 267 = .ok (.iload_n 1, 1) := by decide +kernel
theorem d_M_init_268 : decode prog_10_method_1_code 268 = .ok (.bipush 8, 2) := by decide +kernel
theorem d_M_init_270 : decode prog_10_method_1_code 270 = .ok (.if_icmp .le 8, 3) := by decide +kernel
theorem d_M_init_273 : decode prog_10_method_1_code 273 = .ok (.bipush 8, 2) := by decide +kernel
theorem d_M_init_275 : decode prog_10_method_1_code 275 = .ok (.goto 4, 3) := by decide +kernel
theorem d_M_init_278 : decode prog_10_method_1_code 278 = .ok (.iload_n 1, 1) := by decide +kernel
theorem d_M_init_279 : decode prog_10_method_1_code 279 = .ok (.istore 4, 2) := by decide +kernel
theorem d_M_init_281 : decode prog_10_method_1_code 281 = .ok (.iload_n 2, 1) := by decide +kernel
theorem d_M_init_282 : decode prog_10_method_1_code 282 = .ok (.iconst 1, 1) := by decide +kernel
theorem d_M_init_283 : decode prog_10_method_1_code 283 = .ok (.if_icmp .ge 7, 3) := by decide +kernel
theorem d_M_init_286 : decode prog_10_method_1_code 286 = .ok (.iconst 1, 1) := by decide +kernel
theorem d_M_init_287 : decode prog_10_method_1_code 287 = .ok (.goto 15, 3) := by decide +kernel
theorem d_M_init_290 : decode prog_10_method_1_code 290 = .ok (.iload_n 2, 1) := by decide +kernel
theorem d_M_init_291 : decode prog_10_method_1_code 291 = .ok (.iload 4, 2) := by decide +kernel
theorem d_M_init_293 : decode prog_10_method_1_code 293 = .ok (.if_icmp .le 8, 3) := by decide +kernel
theorem d_M_init_296 : decode prog_10_method_1_code 296 = .ok (.iload 4, 2) := by decide +kernel
theorem d_M_init_298 : decode prog_10_method_1_code 298 = .ok (.goto 4, 3) := by decide +kernel
theorem d_M_init_301 : decode prog_10_method_1_code 301 = .ok (.iload_n 2, 1) := by decide +kernel
theorem d_M_init_302 : decode prog_10_method_1_code 302 = .ok (.istore 5, 2) := by decide +kernel
theorem d_M_init_304 : decode prog_10_method_1_code 304 = .ok (.iload_n 3, 1) := by decide +kernel
theorem d_M_init_305 : decode prog_10_method_1_code 305 = .ok (.iconst 1, 1) := by decide +kernel
theorem d_M_init_306 : decode prog_10_method_1_code 306 = .ok (.if_icmp .ge 7, 3) := by decide +kernel
theorem d_M_init_309 : decode prog_10_method_1_code 309 = .ok (.iconst 1, 1) := by decide +kernel
theorem d_M_init_310 : decode prog_10_method_1_code 310 = .ok (.goto 15, 3) := by decide +kernel
theorem d_M_init_313 : decode prog_10_method_1_code 313 = .ok (.iload_n 3, 1) := by decide +kernel
theorem d_M_init_314 : decode prog_10_method_1_code 314 = .ok (.iload 4, 2) := by decide +kernel
theorem d_M_init_316 : decode prog_10_method_1_code 316 = .ok (.if_icmp .le 8, 3) := by decide +kernel
theorem d_M_init_319 : decode prog_10_method_1_code 319 = .ok (.iload 4, 2) := by decide +kernel
theorem d_M_init_321 : decode prog_10_method_1_code 321 = .ok (.goto 4, 3) := by decide +kernel
theorem d_M_init_324 : decode prog_10_method_1_code 324 = .ok (.iload_n 3, 1) := by decide +kernel
theorem d_M_init_325 : decode prog_10_method_1_code 325 = .ok (.istore 6, 2) := by decide +kernel
theorem d_M_init_327 : decode prog_10_method_1_code 327 = .ok (.iload 6, 2) := by decide +kernel
theorem d_M_init_329 : decode prog_10_method_1_code 329 = .ok (.iload 4, 2) := by decide +kernel
theorem d_M_init_331 : decode prog_10_method_1_code 331 = .ok (.iconst 1, 1) := by decide +kernel
theorem d_M_init_332 : decode prog_10_method_1_code 332 = .ok (.iadd, 1) := by decide +kernel
theorem d_M_init_333 : decode prog_10_method_1_code 333 = .ok (.iload 5, 2) := by decide +kernel
theorem d_M_init_335 : decode prog_10_method_1_code 335 = .ok (.isub, 1) := by decide +kernel
theorem d_M_init_336 : decode prog_10_method_1_code 336 = .ok (.if_icmp .ge 13, 3) := by decide +kernel
theorem d_M_init_339 : decode prog_10_method_1_code 339 = .ok (.iload 4, 2) := by decide +kernel
theorem d_M_init_341 : decode prog_10_method_1_code 341 = .ok (.iconst 1, 1) := by decide +kernel
theorem d_M_init_342 : decode prog_10_method_1_code 342 = .ok (.iadd, 1) := by decide +kernel
theorem d_M_init_343 : decode prog_10_method_1_code 343 = .ok (.iload 5, 2) := by decide +kernel
theorem d_M_init_345 : decode prog_10_method_1_code 345 = .ok (.isub, 1) := by decide +kernel
theorem d_M_init_346 : decode prog_10_method_1_code 346 = .ok (.goto 5, 3) := by decide +kernel
theorem d_M_init_349 : decode prog_10_method_1_code 349 = .ok (.iload 6, 2) := by decide +kernel
theorem d_M_init_351 : decode prog_10_method_1_code 351 = .ok (.istore 6, 2) := by decide +kernel
theorem d_M_init_353 : decode prog_10_method_1_code 353 = .ok (.iconst 0, 1) := by decide +kernel
theorem d_M_init_354 : decode prog_10_method_1_code 354 = .ok (.istore 7, 2) := by decide +kernel
theorem d_M_init_356 : decode prog_10_method_1_code 356 = .ok (.iload 7, 2) := by decide +kernel
theorem d_M_init_358 : decode prog_10_method_1_code 358 = .ok (.bipush 8, 2) := by decide +kernel
theorem d_M_init_360 : decode prog_10_method_1_code 360 = .ok (.if_icmp .ge 76, 3) := by decide +kernel
theorem d_M_init_363 : decode prog_10_method_1_code 363 = .ok (.aload_n 0, 1) := by decide +kernel
theorem d_M_init_364 : decode prog_10_method_1_code 364 = .ok (.getfield 13, 3) := by decide +kernel
theorem d_M_init_367 : decode prog_10_method_1_code 367 = .ok (.iload 7, 2) := by decide +kernel
theorem d_M_init_369 : decode prog_10_method_1_code 369 = .ok (.iconst 1, 1) := by decide +kernel
theorem d_M_init_370 : decode prog_10_method_1_code 370 = .ok (.iastore, 1) := by decide +kernel
theorem d_M_init_371 : decode prog_10_method_1_code 371 = .ok (.iload 7, 2) := by decide +kernel
theorem d_M_init_373 : decode prog_10_method_1_code 373 = .ok (.iload 4, 2) := by decide +kernel
theorem d_M_init_375 : decode prog_10_method_1_code 375 = .ok (.if_icmp .lt 6, 3) := by decide +kernel
theorem d_M_init_378 : decode prog_10_method_1_code 378 = .ok (.goto 52, 3) := by decide +kernel
theorem d_M_init_381 : decode prog_10_method_1_code 381 = .ok (.aload_n 0, 1) := by decide +kernel
theorem d_M_init_382 : decode prog_10_method_1_code 382 = .ok (.getfield 9, 3) := by decide +kernel
theorem d_M_init_385 : decode prog_10_method_1_code 385 = .ok (.iload 7, 2) := by decide +kernel
theorem d_M_init_387 : decode prog_10_method_1_code 387 = .ok (.iconst 1, 1) := by decide +kernel
theorem d_M_init_388 : decode prog_10_method_1_code 388 = .ok (.iastore, 1) := by decide +kernel
theorem d_M_init_389 : decode prog_10_method_1_code 389 = .ok (.aload_n 0, 1) := by decide +kernel
theorem d_M_init_390 : decode prog_10_method_1_code 390 = .ok (.getfield 34, 3) := by decide +kernel
theorem d_M_init_393 : decode prog_10_method_1_code 393 = .ok (.bipush 16, 2) := by decide +kernel
theorem d_M_init_395 : decode prog_10_method_1_code 395 = .ok (.iload 7, 2) := by decide +kernel
theorem d_M_init_397 : decode prog_10_method_1_code 397 = .ok (.imul, 1) := by decide +kernel
theorem d_M_init_398 : decode prog_10_method_1_code 398 = .ok (.iconst 1, 1) := by decide +kernel
theorem d_M_init_399 : decode prog_10_method_1_code 399 = .ok (.iastore, 1) := by decide +kernel
theorem d_M_init_400 : decode prog_10_method_1_code 400 = .ok (.aload_n 0, 1) := by decide +kernel
theorem d_M_init_401 : decode prog_10_method_1_code 401 = .ok (.getfield 37, 3) := by decide +kernel
theorem d_M_init_404 : decode prog_10_method_1_code 404 = .ok (.bipush 16, 2) := by decide +kernel
theorem d_M_init_406 : decode prog_10_method_1_code 406 = .ok (.iload 7, 2) := by decide +kernel
theorem d_M_init_408 : decode prog_10_method_1_code 408 = .ok (.imul, 1) := by decide +kernel
theorem d_M_init_409 : decode prog_10_method_1_code 409 = .ok (.iconst 1, 1) := by decide +kernel
theorem d_M_init_410 : decode prog_10_method_1_code 410 = .ok (.iload 4, 2) := by decide +kernel
theorem d_M_init_412 : decode prog_10_method_1_code 412 = .ok (.ishl, 1) := by decide +kernel
theorem d_M_init_413 : decode prog_10_method_1_code 413 = .ok (.iconst 1, 1) := by decide +kernel
theorem d_M_init_414 : decode prog_10_method_1_code 414 = .ok (.isub, 1) := by decide +kernel
theorem d_M_init_415 : decode prog_10_method_1_code 415 = .ok (.sipush 256, 3) := by decide +kernel
theorem d_M_init_418 : decode prog_10_method_1_code 418 = .ok (.iload 5, 2) := by decide +kernel
theorem d_M_init_420 : decode prog_10_method_1_code 420 = .ok (.imul, 1) := by decide +kernel
theorem d_M_init_421 : decode prog_10_method_1_code 421 = .ok (.iadd, 1) := by decide +kernel
theorem d_M_init_422 : decode prog_10_method_1_code 422 = .ok (.sipush 4096, 3) := by decide +kernel
theorem d_M_init_425 : decode prog_10_method_1_code 425 = .ok (.iload 6, 2) := by decide +kernel
theorem d_M_init_427 : decode prog_10_method_1_code 427 = .ok (.imul, 1) := by decide +kernel
theorem d_M_init_428 : decode prog_10_method_1_code 428 = .ok (.iadd, 1) := by decide +kernel
theorem d_M_init_429 : decode prog_10_method_1_code 429 = .ok (.iastore, 1) := by decide +kernel
theorem d_M_init_430 : decode prog_10_method_1_code 430 = .ok (.iinc 7 1, 3) := by decide +kernel
theorem d_M_init_433 : decode prog_10_method_1_code 433 = .ok (.goto (-77), 3) := by decide +kernel
theorem d_M_init_436 : decode prog_10_method_1_code 436 = .ok (.return_, 1) := by decide +kernel
theorem d_M_in_0 : decode prog_10_method_3_code 0 = .ok (.iload_n 0, 1) := by decide +kernel
theorem d_M_in_1 : decode prog_10_method_3_code 1 = .ok (.iload_n 1, 1) := by decide +kernel
theorem d_M_in_2 : decode prog_10_method_3_code 2 = .ok (.if_icmp .lt 12, 3) := by decide +kernel
theorem d_M_in_5 : decode prog_10_method_3_code 5 = .ok (.iload_n 0, 1) := by decide +kernel
theorem d_M_in_6 : decode prog_10_method_3_code 6 = .ok (.iload_n 2, 1) := by decide +kernel
theorem d_M_in_7 : decode prog_10_method_3_code 7 = .ok (.if_icmp .gt 7, 3) := by decide +kernel
theorem d_M_in_10 : decode prog_10_method_3_code 10 = .ok (.iconst 1, 1) := by decide +kernel
theorem d_M_in_11 : decode prog_10_method_3_code 11 = .ok (.goto 4, 3) := by decide +kernel
theorem d_M_in_14 : decode prog_10_method_3_code 14 = .ok (.iconst 0, 1) := by decide +kernel
theorem d_M_in_15 : decode prog_10_method_3_code 15 = .ok (.ireturn, 1) := by decide +kernel
theorem d_M_isNode_0 : decode prog_10_method_4_code 0 = .ok (.iload_n 0, 1) := by decide +kernel
theorem d_M_isNode_1 : decode prog_10_method_4_code 1 = .ok (.iconst 0, 1) := by decide +kernel
theorem d_M_isNode_2 : decode prog_10_method_4_code 2 = .ok (.bipush 7, 2) := by decide +kernel
theorem d_M_isNode_4 : decode prog_10_method_4_code 4 = .ok (.invokestatic 107, 3) := by decide +kernel
theorem d_M_isNode_7 : decode prog_10_method_4_code 7 = .ok (.ireturn, 1) := by decide +kernel
theorem d_M_isUp_0 : decode prog_10_method_5_code 0 = .ok (.aload_n 0, 1) := by decide +kernel
theorem d_M_isUp_1 : decode prog_10_method_5_code 1 = .ok (.getfield 9, 3) := by decide +kernel
theorem d_M_isUp_4 : decode prog_10_method_5_code 4 = .ok (.iload_n 1, 1) := by decide +kernel
theorem d_M_isUp_5 : decode prog_10_method_5_code 5 = .ok (.iaload, 1) := by decide +kernel
theorem d_M_isUp_6 : decode prog_10_method_5_code 6 = .ok (.iconst 1, 1) := by decide +kernel
theorem d_M_isUp_7 : decode prog_10_method_5_code 7 = .ok (.if_icmp .ne 7, 3) := by decide +kernel
theorem d_M_isUp_10 : decode prog_10_method_5_code 10 = .ok (.iconst 1, 1) := by decide +kernel
theorem d_M_isUp_11 : decode prog_10_method_5_code 11 = .ok (.goto 4, 3) := by decide +kernel
theorem d_M_isUp_14 : decode prog_10_method_5_code 14 = .ok (.iconst 0, 1) := by decide +kernel
theorem d_M_isUp_15 : decode prog_10_method_5_code 15 = .ok (.ireturn, 1) := by decide +kernel
theorem d_M_reads_0 : decode prog_10_method_6_code 0 = .ok (.iload_n 0, 1) := by decide +kernel
theorem d_M_reads_1 : decode prog_10_method_6_code 1 = .ok (.bipush 8, 2) := by decide +kernel
theorem d_M_reads_3 : decode prog_10_method_6_code 3 = .ok (.ishr, 1) := by decide +kernel
theorem d_M_reads_4 : decode prog_10_method_6_code 4 = .ok (.bipush 15, 2) := by decide +kernel
theorem d_M_reads_6 : decode prog_10_method_6_code 6 = .ok (.iand, 1) := by decide +kernel
theorem d_M_reads_7 : decode prog_10_method_6_code 7 = .ok (.ireturn, 1) := by decide +kernel
theorem d_M_stores_0 : decode prog_10_method_7_code 0 = .ok (.iload_n 0, 1) := by decide +kernel
theorem d_M_stores_1 : decode prog_10_method_7_code 1 = .ok (.bipush 12, 2) := by decide +kernel
theorem d_M_stores_3 : decode prog_10_method_7_code 3 = .ok (.ishr, 1) := by decide +kernel
theorem d_M_stores_4 : decode prog_10_method_7_code 4 = .ok (.bipush 15, 2) := by decide +kernel
theorem d_M_stores_6 : decode prog_10_method_7_code 6 = .ok (.iand, 1) := by decide +kernel
theorem d_M_stores_7 : decode prog_10_method_7_code 7 = .ok (.ireturn, 1) := by decide +kernel
theorem d_M_many_0 : decode prog_10_method_8_code 0 = .ok (.iconst 0, 1) := by decide +kernel
theorem d_M_many_1 : decode prog_10_method_8_code 1 = .ok (.istore_n 1, 1) := by decide +kernel
theorem d_M_many_2 : decode prog_10_method_8_code 2 = .ok (.iconst 0, 1) := by decide +kernel
theorem d_M_many_3 : decode prog_10_method_8_code 3 = .ok (.istore_n 2, 1) := by decide +kernel
theorem d_M_many_4 : decode prog_10_method_8_code 4 = .ok (.iload_n 2, 1) := by decide +kernel
theorem d_M_many_5 : decode prog_10_method_8_code 5 = .ok (.bipush 8, 2) := by decide +kernel
theorem d_M_many_7 : decode prog_10_method_8_code 7 = .ok (.if_icmp .ge 17, 3) := by decide +kernel
theorem d_M_many_10 : decode prog_10_method_8_code 10 = .ok (.iload_n 1, 1) := by decide +kernel
theorem d_M_many_11 : decode prog_10_method_8_code 11 = .ok (.iload_n 0, 1) := by decide +kernel
theorem d_M_many_12 : decode prog_10_method_8_code 12 = .ok (.iload_n 2, 1) := by decide +kernel
theorem d_M_many_13 : decode prog_10_method_8_code 13 = .ok (.ishr, 1) := by decide +kernel
theorem d_M_many_14 : decode prog_10_method_8_code 14 = .ok (.iconst 1, 1) := by decide +kernel
theorem d_M_many_15 : decode prog_10_method_8_code 15 = .ok (.iand, 1) := by decide +kernel
theorem d_M_many_16 : decode prog_10_method_8_code 16 = .ok (.iadd, 1) := by decide +kernel
theorem d_M_many_17 : decode prog_10_method_8_code 17 = .ok (.istore_n 1, 1) := by decide +kernel
theorem d_M_many_18 : decode prog_10_method_8_code 18 = .ok (.iinc 2 1, 3) := by decide +kernel
theorem d_M_many_21 : decode prog_10_method_8_code 21 = .ok (.goto (-17), 3) := by decide +kernel
theorem d_M_many_24 : decode prog_10_method_8_code 24 = .ok (.iload_n 1, 1) := by decide +kernel
theorem d_M_many_25 : decode prog_10_method_8_code 25 = .ok (.ireturn, 1) := by decide +kernel
theorem d_M_goesDown_0 : decode prog_10_method_9_code 0 = .ok (.aload_n 0, 1) := by decide +kernel
theorem d_M_goesDown_1 : decode prog_10_method_9_code 1 = .ok (.getfield 9, 3) := by decide +kernel
theorem d_M_goesDown_4 : decode prog_10_method_9_code 4 = .ok (.iload_n 1, 1) := by decide +kernel
theorem d_M_goesDown_5 : decode prog_10_method_9_code 5 = .ok (.iconst 2, 1) := by decide +kernel
theorem d_M_goesDown_6 : decode prog_10_method_9_code 6 = .ok (.iastore, 1) := by decide +kernel
theorem d_M_goesDown_7 : decode prog_10_method_9_code 7 = .ok (.aload_n 0, 1) := by decide +kernel
theorem d_M_goesDown_8 : decode prog_10_method_9_code 8 = .ok (.getfield 19, 3) := by decide +kernel
theorem d_M_goesDown_11 : decode prog_10_method_9_code 11 = .ok (.iload_n 1, 1) := by decide +kernel
theorem d_M_goesDown_12 : decode prog_10_method_9_code 12 = .ok (.iconst 0, 1) := by decide +kernel
theorem d_M_goesDown_13 : decode prog_10_method_9_code 13 = .ok (.iastore, 1) := by decide +kernel
theorem d_M_goesDown_14 : decode prog_10_method_9_code 14 = .ok (.aload_n 0, 1) := by decide +kernel
theorem d_M_goesDown_15 : decode prog_10_method_9_code 15 = .ok (.getfield 49, 3) := by decide +kernel
theorem d_M_goesDown_18 : decode prog_10_method_9_code 18 = .ok (.iload_n 1, 1) := by decide +kernel
theorem d_M_goesDown_19 : decode prog_10_method_9_code 19 = .ok (.iconst 0, 1) := by decide +kernel
theorem d_M_goesDown_20 : decode prog_10_method_9_code 20 = .ok (.iastore, 1) := by decide +kernel
theorem d_M_goesDown_21 : decode prog_10_method_9_code 21 = .ok (.aload_n 0, 1) := by decide +kernel
theorem d_M_goesDown_22 : decode prog_10_method_9_code 22 = .ok (.getfield 52, 3) := by decide +kernel
theorem d_M_goesDown_25 : decode prog_10_method_9_code 25 = .ok (.iload_n 1, 1) := by decide +kernel
theorem d_M_goesDown_26 : decode prog_10_method_9_code 26 = .ok (.iconst 0, 1) := by decide +kernel
theorem d_M_goesDown_27 : decode prog_10_method_9_code 27 = .ok (.iastore, 1) := by decide +kernel
theorem d_M_goesDown_28 : decode prog_10_method_9_code 28 = .ok (.aload_n 0, 1) := by decide +kernel
theorem d_M_goesDown_29 : decode prog_10_method_9_code 29 = .ok (.getfield 55, 3) := by decide +kernel
theorem d_M_goesDown_32 : decode prog_10_method_9_code 32 = .ok (.iload_n 1, 1) := by decide +kernel
theorem d_M_goesDown_33 : decode prog_10_method_9_code 33 = .ok (.iconst 0, 1) := by decide +kernel
theorem d_M_goesDown_34 : decode prog_10_method_9_code 34 = .ok (.iastore, 1) := by decide +kernel
theorem d_M_goesDown_35 : decode prog_10_method_9_code 35 = .ok (.aload_n 0, 1) := by decide +kernel
theorem d_M_goesDown_36 : decode prog_10_method_9_code 36 = .ok (.getfield 22, 3) := by decide +kernel
theorem d_M_goesDown_39 : decode prog_10_method_9_code 39 = .ok (.iload_n 1, 1) := by decide +kernel
theorem d_M_goesDown_40 : decode prog_10_method_9_code 40 = .ok (.iconst 0, 1) := by decide +kernel
theorem d_M_goesDown_41 : decode prog_10_method_9_code 41 = .ok (.iastore, 1) := by decide +kernel
theorem d_M_goesDown_42 : decode prog_10_method_9_code 42 = .ok (.return_, 1) := by decide +kernel
theorem d_M_mayWrite_0 : decode prog_10_method_10_code 0 = .ok (.aload_n 0, 1) := by decide +kernel
theorem d_M_mayWrite_1 : decode prog_10_method_10_code 1 = .ok (.iload_n 1, 1) := by decide +kernel
theorem d_M_mayWrite_2 : decode prog_10_method_10_code 2 = .ok (.invokevirtual 111, 3) := by decide +kernel
theorem d_M_mayWrite_5 : decode prog_10_method_10_code 5 = .ok (.ifCond .ne 5, 3) := by decide +kernel
theorem d_M_mayWrite_8 : decode prog_10_method_10_code 8 = .ok (.iconst 0, 1) := by decide +kernel
theorem d_M_mayWrite_9 : decode prog_10_method_10_code 9 = .ok (.ireturn, 1) := by decide +kernel
theorem d_M_mayWrite_10 : decode prog_10_method_10_code 10 = .ok (.aload_n 0, 1) := by decide +kernel
theorem d_M_mayWrite_11 : decode prog_10_method_10_code 11 = .ok (.getfield 19, 3) := by decide +kernel
theorem d_M_mayWrite_14 : decode prog_10_method_10_code 14 = .ok (.iload_n 1, 1) := by decide +kernel
theorem d_M_mayWrite_15 : decode prog_10_method_10_code 15 = .ok (.iaload, 1) := by decide +kernel
theorem d_M_mayWrite_16 : decode prog_10_method_10_code 16 = .ok (.iconst 1, 1) := by decide +kernel
theorem d_M_mayWrite_17 : decode prog_10_method_10_code 17 = .ok (.if_icmp .ne 10, 3) := by decide +kernel
theorem d_M_mayWrite_20 : decode prog_10_method_10_code 20 = .ok (.aload_n 0, 1) := by decide +kernel
theorem d_M_mayWrite_21 : decode prog_10_method_10_code 21 = .ok (.iload_n 1, 1) := by decide +kernel
theorem d_M_mayWrite_22 : decode prog_10_method_10_code 22 = .ok (.invokevirtual 115, 3) := by decide +kernel
theorem d_M_mayWrite_25 : decode prog_10_method_10_code 25 = .ok (.iconst 0, 1) := by decide +kernel
theorem d_M_mayWrite_26 : decode prog_10_method_10_code 26 = .ok (.ireturn, 1) := by decide +kernel
theorem d_M_mayWrite_27 : decode prog_10_method_10_code 27 = .ok (.aload_n 0, 1) := by decide +kernel
theorem d_M_mayWrite_28 : decode prog_10_method_10_code 28 = .ok (.getfield 19, 3) := by decide +kernel
theorem d_M_mayWrite_31 : decode prog_10_method_10_code 31 = .ok (.iload_n 1, 1) := by decide +kernel
theorem d_M_mayWrite_32 : decode prog_10_method_10_code 32 = .ok (.aload_n 0, 1) := by decide +kernel
theorem d_M_mayWrite_33 : decode prog_10_method_10_code 33 = .ok (.getfield 19, 3) := by decide +kernel
theorem d_M_mayWrite_36 : decode prog_10_method_10_code 36 = .ok (.iload_n 1, 1) := by decide +kernel
theorem d_M_mayWrite_37 : decode prog_10_method_10_code 37 = .ok (.iaload, 1) := by decide +kernel
theorem d_M_mayWrite_38 : decode prog_10_method_10_code 38 = .ok (.ifCond .le 14, 3) := by decide +kernel
theorem d_M_mayWrite_41 : decode prog_10_method_10_code 41 = .ok (.aload_n 0, 1) := by decide +kernel
theorem d_M_mayWrite_42 : decode prog_10_method_10_code 42 = .ok (.getfield 19, 3) := by decide +kernel
theorem d_M_mayWrite_45 : decode prog_10_method_10_code 45 = .ok (.iload_n 1, 1) := by decide +kernel
theorem d_M_mayWrite_46 : decode prog_10_method_10_code 46 = .ok (.iaload, 1) := by decide +kernel
theorem d_M_mayWrite_47 : decode prog_10_method_10_code 47 = .ok (.iconst 1, 1) := by decide +kernel
theorem d_M_mayWrite_48 : decode prog_10_method_10_code 48 = .ok (.isub, 1) := by decide +kernel
theorem d_M_mayWrite_49 : decode prog_10_method_10_code 49 = .ok (.goto 4, 3) := by decide +kernel
theorem d_M_mayWrite_52 : decode prog_10_method_10_code 52 = .ok (.iconst 0, 1) := by decide +kernel
theorem d_M_mayWrite_53 : decode prog_10_method_10_code 53 = .ok (.iastore, 1) := by decide +kernel
theorem d_M_mayWrite_54 : decode prog_10_method_10_code 54 = .ok (.aload_n 0, 1) := by decide +kernel
theorem d_M_mayWrite_55 : decode prog_10_method_10_code 55 = .ok (.dup, 1) := by decide +kernel
theorem d_M_mayWrite_56 : decode prog_10_method_10_code 56 = .ok (.getfield 119, 3) := by decide +kernel
theorem d_M_mayWrite_59 : decode prog_10_method_10_code 59 = .ok (.iconst 1, 1) := by decide +kernel
theorem d_M_mayWrite_60 : decode prog_10_method_10_code 60 = .ok (.iadd, 1) := by decide +kernel
theorem d_M_mayWrite_61 : decode prog_10_method_10_code 61 = .ok (.putfield 119, 3) := by decide +kernel
theorem d_M_mayWrite_64 : decode prog_10_method_10_code 64 = .ok (.iconst 1, 1) := by decide +kernel
theorem d_M_mayWrite_65 : decode prog_10_method_10_code 65 = .ok (.ireturn, 1) := by decide +kernel
theorem d_M_writeRound_0 : decode prog_10_method_11_code 0 = .ok (.aload_n 0, 1) := by decide +kernel
theorem d_M_writeRound_1 : decode prog_10_method_11_code 1 = .ok (.getfield 16, 3) := by decide +kernel
theorem d_M_writeRound_4 : decode prog_10_method_11_code 4 = .ok (.iload_n 1, 1) := by decide +kernel
theorem d_M_writeRound_5 : decode prog_10_method_11_code 5 = .ok (.iaload, 1) := by decide +kernel
theorem d_M_writeRound_6 : decode prog_10_method_11_code 6 = .ok (.iload_n 2, 1) := by decide +kernel
theorem d_M_writeRound_7 : decode prog_10_method_11_code 7 = .ok (.if_icmp .eq 18, 3) := by decide +kernel
theorem d_M_writeRound_10 : decode prog_10_method_11_code 10 = .ok (.aload_n 0, 1) := by decide +kernel
theorem d_M_writeRound_11 : decode prog_10_method_11_code 11 = .ok (.iload_n 1, 1) := by decide +kernel
theorem d_M_writeRound_12 : decode prog_10_method_11_code 12 = .ok (.invokevirtual 122, 3) := by decide +kernel
theorem d_M_writeRound_15 : decode prog_10_method_11_code 15 = .ok (.ifCond .eq 10, 3) := by decide +kernel
theorem d_M_writeRound_18 : decode prog_10_method_11_code 18 = .ok (.aload_n 0, 1) := by decide +kernel
theorem d_M_writeRound_19 : decode prog_10_method_11_code 19 = .ok (.getfield 16, 3) := by decide +kernel
theorem d_M_writeRound_22 : decode prog_10_method_11_code 22 = .ok (.iload_n 1, 1) := by decide +kernel
theorem d_M_writeRound_23 : decode prog_10_method_11_code 23 = .ok (.iload_n 2, 1) := by decide +kernel
theorem d_M_writeRound_24 : decode prog_10_method_11_code 24 = .ok (.iastore, 1) := by decide +kernel
theorem d_M_writeRound_25 : decode prog_10_method_11_code 25 = .ok (.return_, 1) := by decide +kernel
theorem d_M_store_0 : decode prog_10_method_12_code 0 = .ok (.iconst 4, 1) := by decide +kernel
theorem d_M_store_1 : decode prog_10_method_12_code 1 = .ok (.iload_n 1, 1) := by decide +kernel
theorem d_M_store_2 : decode prog_10_method_12_code 2 = .ok (.imul, 1) := by decide +kernel
theorem d_M_store_3 : decode prog_10_method_12_code 3 = .ok (.iload_n 2, 1) := by decide +kernel
theorem d_M_store_4 : decode prog_10_method_12_code 4 = .ok (.iadd, 1) := by decide +kernel
theorem d_M_store_5 : decode prog_10_method_12_code 5 = .ok (.istore 6, 2) := by decide +kernel
theorem d_M_store_7 : decode prog_10_method_12_code 7 = .ok (.iload_n 3, 1) := by decide +kernel
theorem d_M_store_8 : decode prog_10_method_12_code 8 = .ok (.iload 4, 2) := by decide +kernel
theorem d_M_store_10 : decode prog_10_method_12_code 10 = .ok (.aload_n 0, 1) := by decide +kernel
theorem d_M_store_11 : decode prog_10_method_12_code 11 = .ok (.getfield 25, 3) := by decide +kernel
theorem d_M_store_14 : decode prog_10_method_12_code 14 = .ok (.iload 6, 2) := by decide +kernel
theorem d_M_store_16 : decode prog_10_method_12_code 16 = .ok (.iaload, 1) := by decide +kernel
theorem d_M_store_17 : decode prog_10_method_12_code 17 = .ok (.aload_n 0, 1) := by decide +kernel
theorem d_M_store_18 : decode prog_10_method_12_code 18 = .ok (.getfield 28, 3) := by decide +kernel
theorem d_M_store_21 : decode prog_10_method_12_code 21 = .ok (.iload 6, 2) := by decide +kernel
theorem d_M_store_23 : decode prog_10_method_12_code 23 = .ok (.iaload, 1) := by decide +kernel
theorem d_M_store_24 : decode prog_10_method_12_code 24 = .ok (.invokestatic 125, 3) := by decide +kernel
theorem d_M_store_27 : decode prog_10_method_12_code 27 = .ok (.ifCond .eq 11, 3) := by decide +kernel
theorem d_M_store_30 : decode prog_10_method_12_code 30 = .ok (.aload_n 0, 1) := by decide +kernel
theorem d_M_store_31 : decode prog_10_method_12_code 31 = .ok (.iload_n 1, 1) := by decide +kernel
theorem d_M_store_32 : decode prog_10_method_12_code 32 = .ok (.invokevirtual 122, 3) := by decide +kernel
theorem d_M_store_35 : decode prog_10_method_12_code 35 = .ok (.ifCond .ne 4, 3) := by decide +kernel
theorem d_M_store_38 : decode prog_10_method_12_code 38 = .ok (.return_, 1) := by decide +kernel
theorem d_M_store_39 : decode prog_10_method_12_code 39 = .ok (.aload_n 0, 1) := by decide +kernel
theorem d_M_store_40 : decode prog_10_method_12_code 40 = .ok (.getfield 25, 3) := by decide +kernel
theorem d_M_store_43 : decode prog_10_method_12_code 43 = .ok (.iload 6, 2) := by decide +kernel
theorem d_M_store_45 : decode prog_10_method_12_code 45 = .ok (.iload_n 3, 1) := by decide +kernel
theorem d_M_store_46 : decode prog_10_method_12_code 46 = .ok (.iastore, 1) := by decide +kernel
theorem d_M_store_47 : decode prog_10_method_12_code 47 = .ok (.aload_n 0, 1) := by decide +kernel
theorem d_M_store_48 : decode prog_10_method_12_code 48 = .ok (.getfield 28, 3) := by decide +kernel
theorem d_M_store_51 : decode prog_10_method_12_code 51 = .ok (.iload 6, 2) := by decide +kernel
theorem d_M_store_53 : decode prog_10_method_12_code 53 = .ok (.iload 4, 2) := by decide +kernel
theorem d_M_store_55 : decode prog_10_method_12_code 55 = .ok (.iastore, 1) := by decide +kernel
theorem d_M_store_56 : decode prog_10_method_12_code 56 = .ok (.aload_n 0, 1) := by decide +kernel
theorem d_M_store_57 : decode prog_10_method_12_code 57 = .ok (.getfield 31, 3) := by decide +kernel
theorem d_M_store_60 : decode prog_10_method_12_code 60 = .ok (.iload 6, 2) := by decide +kernel
theorem d_M_store_62 : decode prog_10_method_12_code 62 = .ok (.iload 5, 2) := by decide +kernel
theorem d_M_store_64 : decode prog_10_method_12_code 64 = .ok (.iastore, 1) := by decide +kernel
theorem d_M_store_65 : decode prog_10_method_12_code 65 = .ok (.return_, 1) := by decide +kernel
theorem d_M_isGreater_0 : decode prog_10_method_13_code 0 = .ok (.iload_n 0, 1) := by decide +kernel
theorem d_M_isGreater_1 : decode prog_10_method_13_code 1 = .ok (.iload_n 2, 1) := by decide +kernel
theorem d_M_isGreater_2 : decode prog_10_method_13_code 2 = .ok (.if_icmp .gt 13, 3) := by decide +kernel
theorem d_M_isGreater_5 : decode prog_10_method_13_code 5 = .ok (.iload_n 0, 1) := by decide +kernel
theorem d_M_isGreater_6 : decode prog_10_method_13_code 6 = .ok (.iload_n 2, 1) := by decide +kernel
theorem d_M_isGreater_7 : decode prog_10_method_13_code 7 = .ok (.if_icmp .ne 12, 3) := by decide +kernel
theorem d_M_isGreater_10 : decode prog_10_method_13_code 10 = .ok (.iload_n 1, 1) := by decide +kernel
theorem d_M_isGreater_11 : decode prog_10_method_13_code 11 = .ok (.iload_n 3, 1) := by decide +kernel
theorem d_M_isGreater_12 : decode prog_10_method_13_code 12 = .ok (.if_icmp .le 7, 3) := by decide +kernel
theorem d_M_isGreater_15 : decode prog_10_method_13_code 15 = .ok (.iconst 1, 1) := by decide +kernel
theorem d_M_isGreater_16 : decode prog_10_method_13_code 16 = .ok (.goto 4, 3) := by decide +kernel
theorem d_M_isGreater_19 : decode prog_10_method_13_code 19 = .ok (.iconst 0, 1) := by decide +kernel
theorem d_M_isGreater_20 : decode prog_10_method_13_code 20 = .ok (.ireturn, 1) := by decide +kernel
theorem d_M_writeMap_0 : decode prog_10_method_14_code 0 = .ok (.bipush 16, 2) := by decide +kernel
theorem d_M_writeMap_2 : decode prog_10_method_14_code 2 = .ok (.iload_n 1, 1) := by decide +kernel
theorem d_M_writeMap_3 : decode prog_10_method_14_code 3 = .ok (.imul, 1) := by decide +kernel
theorem d_M_writeMap_4 : decode prog_10_method_14_code 4 = .ok (.iload_n 2, 1) := by decide +kernel
theorem d_M_writeMap_5 : decode prog_10_method_14_code 5 = .ok (.iadd, 1) := by decide +kernel
theorem d_M_writeMap_6 : decode prog_10_method_14_code 6 = .ok (.istore 5, 2) := by decide +kernel
theorem d_M_writeMap_8 : decode prog_10_method_14_code 8 = .ok (.aload_n 0, 1) := by decide +kernel
theorem d_M_writeMap_9 : decode prog_10_method_14_code 9 = .ok (.getfield 34, 3) := by decide +kernel
theorem d_M_writeMap_12 : decode prog_10_method_14_code 12 = .ok (.iload 5, 2) := by decide +kernel
theorem d_M_writeMap_14 : decode prog_10_method_14_code 14 = .ok (.iaload, 1) := by decide +kernel
theorem d_M_writeMap_15 : decode prog_10_method_14_code 15 = .ok (.iload_n 3, 1) := by decide +kernel
theorem d_M_writeMap_16 : decode prog_10_method_14_code 16 = .ok (.if_icmp .ne 15, 3) := by decide +kernel
theorem d_M_writeMap_19 : decode prog_10_method_14_code 19 = .ok (.aload_n 0, 1) := by decide +kernel
theorem d_M_writeMap_20 : decode prog_10_method_14_code 20 = .ok (.getfield 37, 3) := by decide +kernel
theorem d_M_writeMap_23 : decode prog_10_method_14_code 23 = .ok (.iload 5, 2) := by decide +kernel
theorem d_M_writeMap_25 : decode prog_10_method_14_code 25 = .ok (.iaload, 1) := by decide +kernel
theorem d_M_writeMap_26 : decode prog_10_method_14_code 26 = .ok (.iload 4, 2) := by decide +kernel
theorem d_M_writeMap_28 : decode prog_10_method_14_code 28 = .ok (.if_icmp .eq 11, 3) := by decide +kernel
theorem d_M_writeMap_31 : decode prog_10_method_14_code 31 = .ok (.aload_n 0, 1) := by decide +kernel
theorem d_M_writeMap_32 : decode prog_10_method_14_code 32 = .ok (.iload_n 1, 1) := by decide +kernel
theorem d_M_writeMap_33 : decode prog_10_method_14_code 33 = .ok (.invokevirtual 122, 3) := by decide +kernel
theorem d_M_writeMap_36 : decode prog_10_method_14_code 36 = .ok (.ifCond .ne 4, 3) := by decide +kernel
theorem d_M_writeMap_39 : decode prog_10_method_14_code 39 = .ok (.return_, 1) := by decide +kernel
theorem d_M_writeMap_40 : decode prog_10_method_14_code 40 = .ok (.aload_n 0, 1) := by decide +kernel
theorem d_M_writeMap_41 : decode prog_10_method_14_code 41 = .ok (.getfield 34, 3) := by decide +kernel
theorem d_M_writeMap_44 : decode prog_10_method_14_code 44 = .ok (.iload 5, 2) := by decide +kernel
theorem d_M_writeMap_46 : decode prog_10_method_14_code 46 = .ok (.iload_n 3, 1) := by decide +kernel
theorem d_M_writeMap_47 : decode prog_10_method_14_code 47 = .ok (.iastore, 1) := by decide +kernel
theorem d_M_writeMap_48 : decode prog_10_method_14_code 48 = .ok (.aload_n 0, 1) := by decide +kernel
theorem d_M_writeMap_49 : decode prog_10_method_14_code 49 = .ok (.getfield 37, 3) := by decide +kernel
theorem d_M_writeMap_52 : decode prog_10_method_14_code 52 = .ok (.iload 5, 2) := by decide +kernel
theorem d_M_writeMap_54 : decode prog_10_method_14_code 54 = .ok (.iload 4, 2) := by decide +kernel
theorem d_M_writeMap_56 : decode prog_10_method_14_code 56 = .ok (.iastore, 1) := by decide +kernel
theorem d_M_writeMap_57 : decode prog_10_method_14_code 57 = .ok (.return_, 1) := by decide +kernel
theorem d_M_writeVote_0 : decode prog_10_method_15_code 0 = .ok (.bipush 16, 2) := by decide +kernel
theorem d_M_writeVote_2 : decode prog_10_method_15_code 2 = .ok (.iload_n 1, 1) := by decide +kernel
theorem d_M_writeVote_3 : decode prog_10_method_15_code 3 = .ok (.imul, 1) := by decide +kernel
theorem d_M_writeVote_4 : decode prog_10_method_15_code 4 = .ok (.iload_n 2, 1) := by decide +kernel
theorem d_M_writeVote_5 : decode prog_10_method_15_code 5 = .ok (.iadd, 1) := by decide +kernel
theorem d_M_writeVote_6 : decode prog_10_method_15_code 6 = .ok (.istore 6, 2) := by decide +kernel
theorem d_M_writeVote_8 : decode prog_10_method_15_code 8 = .ok (.aload_n 0, 1) := by decide +kernel
theorem d_M_writeVote_9 : decode prog_10_method_15_code 9 = .ok (.getfield 40, 3) := by decide +kernel
theorem d_M_writeVote_12 : decode prog_10_method_15_code 12 = .ok (.iload 6, 2) := by decide +kernel
theorem d_M_writeVote_14 : decode prog_10_method_15_code 14 = .ok (.iaload, 1) := by decide +kernel
theorem d_M_writeVote_15 : decode prog_10_method_15_code 15 = .ok (.iload_n 3, 1) := by decide +kernel
theorem d_M_writeVote_16 : decode prog_10_method_15_code 16 = .ok (.if_icmp .ne 27, 3) := by decide +kernel
theorem d_M_writeVote_19 : decode prog_10_method_15_code 19 = .ok (.aload_n 0, 1) := by decide +kernel
theorem d_M_writeVote_20 : decode prog_10_method_15_code 20 = .ok (.getfield 43, 3) := by decide +kernel
theorem d_M_writeVote_23 : decode prog_10_method_15_code 23 = .ok (.iload 6, 2) := by decide +kernel
theorem d_M_writeVote_25 : decode prog_10_method_15_code 25 = .ok (.iaload, 1) := by decide +kernel
theorem d_M_writeVote_26 : decode prog_10_method_15_code 26 = .ok (.iload 4, 2) := by decide +kernel
theorem d_M_writeVote_28 : decode prog_10_method_15_code 28 = .ok (.if_icmp .ne 15, 3) := by decide +kernel
theorem d_M_writeVote_31 : decode prog_10_method_15_code 31 = .ok (.aload_n 0, 1) := by decide +kernel
theorem d_M_writeVote_32 : decode prog_10_method_15_code 32 = .ok (.getfield 46, 3) := by decide +kernel
theorem d_M_writeVote_35 : decode prog_10_method_15_code 35 = .ok (.iload 6, 2) := by decide +kernel
theorem d_M_writeVote_37 : decode prog_10_method_15_code 37 = .ok (.iaload, 1) := by decide +kernel
theorem d_M_writeVote_38 : decode prog_10_method_15_code 38 = .ok (.iload 5, 2) := by decide +kernel
theorem d_M_writeVote_40 : decode prog_10_method_15_code 40 = .ok (.if_icmp .eq 11, 3) := by decide +kernel
theorem d_M_writeVote_43 : decode prog_10_method_15_code 43 = .ok (.aload_n 0, 1) := by decide +kernel
theorem d_M_writeVote_44 : decode prog_10_method_15_code 44 = .ok (.iload_n 1, 1) := by decide +kernel
theorem d_M_writeVote_45 : decode prog_10_method_15_code 45 = .ok (.invokevirtual 122, 3) := by decide +kernel
theorem d_M_writeVote_48 : decode prog_10_method_15_code 48 = .ok (.ifCond .ne 4, 3) := by decide +kernel
theorem d_M_writeVote_51 : decode prog_10_method_15_code 51 = .ok (.return_, 1) := by decide +kernel
theorem d_M_writeVote_52 : decode prog_10_method_15_code 52 = .ok (.aload_n 0, 1) := by decide +kernel
theorem d_M_writeVote_53 : decode prog_10_method_15_code 53 = .ok (.getfield 40, 3) := by decide +kernel
theorem d_M_writeVote_56 : decode prog_10_method_15_code 56 = .ok (.iload 6, 2) := by decide +kernel
theorem d_M_writeVote_58 : decode prog_10_method_15_code 58 = .ok (.iload_n 3, 1) := by decide +kernel
theorem d_M_writeVote_59 : decode prog_10_method_15_code 59 = .ok (.iastore, 1) := by decide +kernel
theorem d_M_writeVote_60 : decode prog_10_method_15_code 60 = .ok (.aload_n 0, 1) := by decide +kernel
theorem d_M_writeVote_61 : decode prog_10_method_15_code 61 = .ok (.getfield 43, 3) := by decide +kernel
theorem d_M_writeVote_64 : decode prog_10_method_15_code 64 = .ok (.iload 6, 2) := by decide +kernel
theorem d_M_writeVote_66 : decode prog_10_method_15_code 66 = .ok (.iload 4, 2) := by decide +kernel
theorem d_M_writeVote_68 : decode prog_10_method_15_code 68 = .ok (.iastore, 1) := by decide +kernel
theorem d_M_writeVote_69 : decode prog_10_method_15_code 69 = .ok (.aload_n 0, 1) := by decide +kernel
theorem d_M_writeVote_70 : decode prog_10_method_15_code 70 = .ok (.getfield 46, 3) := by decide +kernel
theorem d_M_writeVote_73 : decode prog_10_method_15_code 73 = .ok (.iload 6, 2) := by decide +kernel
theorem d_M_writeVote_75 : decode prog_10_method_15_code 75 = .ok (.iload 5, 2) := by decide +kernel
theorem d_M_writeVote_77 : decode prog_10_method_15_code 77 = .ok (.iastore, 1) := by decide +kernel
theorem d_M_writeVote_78 : decode prog_10_method_15_code 78 = .ok (.return_, 1) := by decide +kernel
theorem d_M_greatest_0 : decode prog_10_method_16_code 0 = .ok (.iconst (-1), 1) := by decide +kernel
theorem d_M_greatest_1 : decode prog_10_method_16_code 1 = .ok (.istore_n 2, 1) := by decide +kernel
theorem d_M_greatest_2 : decode prog_10_method_16_code 2 = .ok (.iconst 0, 1) := by decide +kernel
theorem d_M_greatest_3 : decode prog_10_method_16_code 3 = .ok (.istore_n 3, 1) := by decide +kernel
theorem d_M_greatest_4 : decode prog_10_method_16_code 4 = .ok (.iload_n 3, 1) := by decide +kernel
theorem d_M_greatest_5 : decode prog_10_method_16_code 5 = .ok (.bipush 16, 2) := by decide +kernel
theorem d_M_greatest_7 : decode prog_10_method_16_code 7 = .ok (.if_icmp .ge 30, 3) := by decide +kernel
theorem d_M_greatest_10 : decode prog_10_method_16_code 10 = .ok (.aload_n 0, 1) := by decide +kernel
theorem d_M_greatest_11 : decode prog_10_method_16_code 11 = .ok (.getfield 34, 3) := by decide +kernel
theorem d_M_greatest_14 : decode prog_10_method_16_code 14 = .ok (.bipush 16, 2) := by decide +kernel
theorem d_M_greatest_16 : decode prog_10_method_16_code 16 = .ok (.iload_n 1, 1) := by decide +kernel
theorem d_M_greatest_17 : decode prog_10_method_16_code 17 = .ok (.imul, 1) := by decide +kernel
theorem d_M_greatest_18 : decode prog_10_method_16_code 18 = .ok (.iload_n 3, 1) := by decide +kernel
theorem d_M_greatest_19 : decode prog_10_method_16_code 19 = .ok (.iadd, 1) := by decide +kernel
theorem d_M_greatest_20 : decode prog_10_method_16_code 20 = .ok (.iaload, 1) := by decide +kernel
theorem d_M_greatest_21 : decode prog_10_method_16_code 21 = .ok (.iconst 1, 1) := by decide +kernel
theorem d_M_greatest_22 : decode prog_10_method_16_code 22 = .ok (.if_icmp .ne 7, 3) := by decide +kernel
theorem d_M_greatest_25 : decode prog_10_method_16_code 25 = .ok (.iload_n 3, 1) := by decide +kernel
theorem d_M_greatest_26 : decode prog_10_method_16_code 26 = .ok (.goto 4, 3) := by decide +kernel
theorem d_M_greatest_29 : decode prog_10_method_16_code 29 = .ok (.iload_n 2, 1) := by decide +kernel
theorem d_M_greatest_30 : decode prog_10_method_16_code 30 = .ok (.istore_n 2, 1) := by decide +kernel
theorem d_M_greatest_31 : decode prog_10_method_16_code 31 = .ok (.iinc 3 1, 3) := by decide +kernel
theorem d_M_greatest_34 : decode prog_10_method_16_code 34 = .ok (.goto (-30), 3) := by decide +kernel
theorem d_M_greatest_37 : decode prog_10_method_16_code 37 = .ok (.iload_n 2, 1) := by decide +kernel
theorem d_M_greatest_38 : decode prog_10_method_16_code 38 = .ok (.ireturn, 1) := by decide +kernel
theorem d_M_least_0 : decode prog_10_method_17_code 0 = .ok (.iconst (-1), 1) := by decide +kernel
theorem d_M_least_1 : decode prog_10_method_17_code 1 = .ok (.istore_n 2, 1) := by decide +kernel
theorem d_M_least_2 : decode prog_10_method_17_code 2 = .ok (.bipush 15, 2) := by decide +kernel
theorem d_M_least_4 : decode prog_10_method_17_code 4 = .ok (.istore_n 3, 1) := by decide +kernel
theorem d_M_least_5 : decode prog_10_method_17_code 5 = .ok (.iload_n 3, 1) := by decide +kernel
theorem d_M_least_6 : decode prog_10_method_17_code 6 = .ok (.ifCond .lt 30, 3) := by decide +kernel
theorem d_M_least_9 : decode prog_10_method_17_code 9 = .ok (.aload_n 0, 1) := by decide +kernel
theorem d_M_least_10 : decode prog_10_method_17_code 10 = .ok (.getfield 34, 3) := by decide +kernel
theorem d_M_least_13 : decode prog_10_method_17_code 13 = .ok (.bipush 16, 2) := by decide +kernel
theorem d_M_least_15 : decode prog_10_method_17_code 15 = .ok (.iload_n 1, 1) := by decide +kernel
theorem d_M_least_16 : decode prog_10_method_17_code 16 = .ok (.imul, 1) := by decide +kernel
theorem d_M_least_17 : decode prog_10_method_17_code 17 = .ok (.iload_n 3, 1) := by decide +kernel
theorem d_M_least_18 : decode prog_10_method_17_code 18 = .ok (.iadd, 1) := by decide +kernel
theorem d_M_least_19 : decode prog_10_method_17_code 19 = .ok (.iaload, 1) := by decide +kernel
theorem d_M_least_20 : decode prog_10_method_17_code 20 = .ok (.iconst 1, 1) := by decide +kernel
theorem d_M_least_21 : decode prog_10_method_17_code 21 = .ok (.if_icmp .ne 7, 3) := by decide +kernel
theorem d_M_least_24 : decode prog_10_method_17_code 24 = .ok (.iload_n 3, 1) := by decide +kernel
theorem d_M_least_25 : decode prog_10_method_17_code 25 = .ok (.goto 4, 3) := by decide +kernel
theorem d_M_least_28 : decode prog_10_method_17_code 28 = .ok (.iload_n 2, 1) := by decide +kernel
theorem d_M_least_29 : decode prog_10_method_17_code 29 = .ok (.istore_n 2, 1) := by decide +kernel
theorem d_M_least_30 : decode prog_10_method_17_code 30 = .ok (.iinc 3 (-1), 3) := by decide +kernel
theorem d_M_least_33 : decode prog_10_method_17_code 33 = .ok (.goto (-28), 3) := by decide +kernel
theorem d_M_least_36 : decode prog_10_method_17_code 36 = .ok (.iload_n 2, 1) := by decide +kernel
theorem d_M_least_37 : decode prog_10_method_17_code 37 = .ok (.ireturn, 1) := by decide +kernel
theorem d_M_allActive_0 : decode prog_10_method_18_code 0 = .ok (.iconst 0, 1) := by decide +kernel
theorem d_M_allActive_1 : decode prog_10_method_18_code 1 = .ok (.istore_n 2, 1) := by decide +kernel
theorem d_M_allActive_2 : decode prog_10_method_18_code 2 = .ok (.iconst 0, 1) := by decide +kernel
theorem d_M_allActive_3 : decode prog_10_method_18_code 3 = .ok (.istore_n 3, 1) := by decide +kernel
theorem d_M_allActive_4 : decode prog_10_method_18_code 4 = .ok (.iload_n 3, 1) := by decide +kernel
theorem d_M_allActive_5 : decode prog_10_method_18_code 5 = .ok (.bipush 16, 2) := by decide +kernel
theorem d_M_allActive_7 : decode prog_10_method_18_code 7 = .ok (.if_icmp .ge 46, 3) := by decide +kernel
theorem d_M_allActive_10 : decode prog_10_method_18_code 10 = .ok (.iload_n 2, 1) := by decide +kernel
theorem d_M_allActive_11 : decode prog_10_method_18_code 11 = .ok (.aload_n 0, 1) := by decide +kernel
theorem d_M_allActive_12 : decode prog_10_method_18_code 12 = .ok (.getfield 34, 3) := by decide +kernel
theorem d_M_allActive_15 : decode prog_10_method_18_code 15 = .ok (.bipush 16, 2) := by decide +kernel
theorem d_M_allActive_17 : decode prog_10_method_18_code 17 = .ok (.iload_n 1, 1) := by decide +kernel
theorem d_M_allActive_18 : decode prog_10_method_18_code 18 = .ok (.imul, 1) := by decide +kernel
theorem d_M_allActive_19 : decode prog_10_method_18_code 19 = .ok (.iload_n 3, 1) := by decide +kernel
theorem d_M_allActive_20 : decode prog_10_method_18_code 20 = .ok (.iadd, 1) := by decide +kernel
theorem d_M_allActive_21 : decode prog_10_method_18_code 21 = .ok (.iaload, 1) := by decide +kernel
theorem d_M_allActive_22 : decode prog_10_method_18_code 22 = .ok (.iconst 1, 1) := by decide +kernel
theorem d_M_allActive_23 : decode prog_10_method_18_code 23 = .ok (.if_icmp .ne 21, 3) := by decide +kernel
theorem d_M_allActive_26 : decode prog_10_method_18_code 26 = .ok (.aload_n 0, 1) := by decide +kernel
theorem d_M_allActive_27 : decode prog_10_method_18_code 27 = .ok (.getfield 37, 3) := by decide +kernel
theorem d_M_allActive_30 : decode prog_10_method_18_code 30 = .ok (.bipush 16, 2) := by decide +kernel
theorem d_M_allActive_32 : decode prog_10_method_18_code 32 = .ok (.iload_n 1, 1) := by decide +kernel
theorem d_M_allActive_33 : decode prog_10_method_18_code 33 = .ok (.imul, 1) := by decide +kernel
theorem d_M_allActive_34 : decode prog_10_method_18_code 34 = .ok (.iload_n 3, 1) := by decide +kernel
theorem d_M_allActive_35 : decode prog_10_method_18_code 35 = .ok (.iadd, 1) := by decide +kernel
theorem d_M_allActive_36 : decode prog_10_method_18_code 36 = .ok (.iaload, 1) := by decide +kernel
theorem d_M_allActive_37 : decode prog_10_method_18_code 37 = .ok (.sipush 255, 3) := by decide +kernel
theorem d_M_allActive_40 : decode prog_10_method_18_code 40 = .ok (.iand, 1) := by decide +kernel
theorem d_M_allActive_41 : decode prog_10_method_18_code 41 = .ok (.goto 4, 3) := by decide +kernel
theorem d_M_allActive_44 : decode prog_10_method_18_code 44 = .ok (.iconst 0, 1) := by decide +kernel
theorem d_M_allActive_45 : decode prog_10_method_18_code 45 = .ok (.ior, 1) := by decide +kernel
theorem d_M_allActive_46 : decode prog_10_method_18_code 46 = .ok (.istore_n 2, 1) := by decide +kernel
theorem d_M_allActive_47 : decode prog_10_method_18_code 47 = .ok (.iinc 3 1, 3) := by decide +kernel
theorem d_M_allActive_50 : decode prog_10_method_18_code 50 = .ok (.goto (-46), 3) := by decide +kernel
theorem d_M_allActive_53 : decode prog_10_method_18_code 53 = .ok (.iload_n 2, 1) := by decide +kernel
theorem d_M_allActive_54 : decode prog_10_method_18_code 54 = .ok (.ireturn, 1) := by decide +kernel
theorem d_M_send_0 : decode prog_10_method_19_code 0 = .ok (.aload_n 0, 1) := by decide +kernel
theorem d_M_send_1 : decode prog_10_method_19_code 1 = .ok (.getfield 129, 3) := by decide +kernel
theorem d_M_send_4 : decode prog_10_method_19_code 4 = .ok (.bipush 120, 2) := by decide +kernel
theorem d_M_send_6 : decode prog_10_method_19_code 6 = .ok (.if_icmp .ne 14, 3) := by decide +kernel
theorem d_M_send_9 : decode prog_10_method_19_code 9 = .ok (.aload_n 0, 1) := by decide +kernel
theorem d_M_send_10 : decode prog_10_method_19_code 10 = .ok (.dup, 1) := by decide +kernel
theorem d_M_send_11 : decode prog_10_method_19_code 11 = .ok (.getfield 132, 3) := by decide +kernel
theorem d_M_send_14 : decode prog_10_method_19_code 14 = .ok (.iconst 1, 1) := by decide +kernel
theorem d_M_send_15 : decode prog_10_method_19_code 15 = .ok (.iadd, 1) := by decide +kernel
theorem d_M_send_16 : decode prog_10_method_19_code 16 = .ok (.putfield 132, 3) := by decide +kernel
theorem d_M_send_19 : decode prog_10_method_19_code 19 = .ok (.return_, 1) := by decide +kernel
theorem d_M_send_20 : decode prog_10_method_19_code 20 = .ok (.bipush 53, 2) := by decide +kernel
theorem d_M_send_22 : decode prog_10_method_19_code 22 = .ok (.aload_n 0, 1) := by decide +kernel
theorem d_M_send_23 : decode prog_10_method_19_code 23 = .ok (.getfield 129, 3) := by decide +kernel
theorem d_M_send_26 : decode prog_10_method_19_code 26 = .ok (.imul, 1) := by decide +kernel
theorem d_M_send_27 : decode prog_10_method_19_code 27 = .ok (.istore 12, 2) := by decide +kernel
theorem d_M_send_29 : decode prog_10_method_19_code 29 = .ok (.aload_n 0, 1) := by decide +kernel
theorem d_M_send_30 : decode prog_10_method_19_code 30 = .ok (.dup, 1) := by decide +kernel
theorem d_M_send_31 : decode prog_10_method_19_code 31 = .ok (.getfield 129, 3) := by decide +kernel
theorem d_M_send_34 : decode prog_10_method_19_code 34 = .ok (.iconst 1, 1) := by decide +kernel
theorem d_M_send_35 : decode prog_10_method_19_code 35 = .ok (.iadd, 1) := by decide +kernel
theorem d_M_send_36 : decode prog_10_method_19_code 36 = .ok (.putfield 129, 3) := by decide +kernel
theorem d_M_send_39 : decode prog_10_method_19_code 39 = .ok (.aload_n 0, 1) := by decide +kernel
theorem d_M_send_40 : decode prog_10_method_19_code 40 = .ok (.getfield 97, 3) := by decide +kernel
theorem d_M_send_43 : decode prog_10_method_19_code 43 = .ok (.iload 12, 2) := by decide +kernel
theorem d_M_send_45 : decode prog_10_method_19_code 45 = .ok (.iconst 0, 1) := by decide +kernel
theorem d_M_send_46 : decode prog_10_method_19_code 46 = .ok (.iadd, 1) := by decide +kernel
theorem d_M_send_47 : decode prog_10_method_19_code 47 = .ok (.iload_n 1, 1) := by decide +kernel
theorem d_M_send_48 : decode prog_10_method_19_code 48 = .ok (.iastore, 1) := by decide +kernel
theorem d_M_send_49 : decode prog_10_method_19_code 49 = .ok (.aload_n 0, 1) := by decide +kernel
theorem d_M_send_50 : decode prog_10_method_19_code 50 = .ok (.getfield 97, 3) := by decide +kernel
theorem d_M_send_53 : decode prog_10_method_19_code 53 = .ok (.iload 12, 2) := by decide +kernel
theorem d_M_send_55 : decode prog_10_method_19_code 55 = .ok (.iconst 1, 1) := by decide +kernel
theorem d_M_send_56 : decode prog_10_method_19_code 56 = .ok (.iadd, 1) := by decide +kernel
theorem d_M_send_57 : decode prog_10_method_19_code 57 = .ok (.iload_n 2, 1) := by decide +kernel
theorem d_M_send_58 : decode prog_10_method_19_code 58 = .ok (.iastore, 1) := by decide +kernel
theorem d_M_send_59 : decode prog_10_method_19_code 59 = .ok (.aload_n 0, 1) := by decide +kernel
theorem d_M_send_60 : decode prog_10_method_19_code 60 = .ok (.getfield 97, 3) := by decide +kernel
theorem d_M_send_63 : decode prog_10_method_19_code 63 = .ok (.iload 12, 2) := by decide +kernel
theorem d_M_send_65 : decode prog_10_method_19_code 65 = .ok (.iconst 2, 1) := by decide +kernel
theorem d_M_send_66 : decode prog_10_method_19_code 66 = .ok (.iadd, 1) := by decide +kernel
theorem d_M_send_67 : decode prog_10_method_19_code 67 = .ok (.iload_n 3, 1) := by decide +kernel
theorem d_M_send_68 : decode prog_10_method_19_code 68 = .ok (.iastore, 1) := by decide +kernel
theorem d_M_send_69 : decode prog_10_method_19_code 69 = .ok (.aload_n 0, 1) := by decide +kernel
theorem d_M_send_70 : decode prog_10_method_19_code 70 = .ok (.getfield 97, 3) := by decide +kernel
theorem d_M_send_73 : decode prog_10_method_19_code 73 = .ok (.iload 12, 2) := by decide +kernel
theorem d_M_send_75 : decode prog_10_method_19_code 75 = .ok (.iconst 3, 1) := by decide +kernel
theorem d_M_send_76 : decode prog_10_method_19_code 76 = .ok (.iadd, 1) := by decide +kernel
theorem d_M_send_77 : decode prog_10_method_19_code 77 = .ok (.iload 4, 2) := by decide +kernel
theorem d_M_send_79 : decode prog_10_method_19_code 79 = .ok (.iastore, 1) := by decide +kernel
theorem d_M_send_80 : decode prog_10_method_19_code 80 = .ok (.aload_n 0, 1) := by decide +kernel
theorem d_M_send_81 : decode prog_10_method_19_code 81 = .ok (.getfield 97, 3) := by decide +kernel
theorem d_M_send_84 : decode prog_10_method_19_code 84 = .ok (.iload 12, 2) := by decide +kernel
theorem d_M_send_86 : decode prog_10_method_19_code 86 = .ok (.iconst 4, 1) := by decide +kernel
theorem d_M_send_87 : decode prog_10_method_19_code 87 = .ok (.iadd, 1) := by decide +kernel
theorem d_M_send_88 : decode prog_10_method_19_code 88 = .ok (.iload 5, 2) := by decide +kernel
theorem d_M_send_90 : decode prog_10_method_19_code 90 = .ok (.iastore, 1) := by decide +kernel
theorem d_M_send_91 : decode prog_10_method_19_code 91 = .ok (.aload_n 0, 1) := by decide +kernel
theorem d_M_send_92 : decode prog_10_method_19_code 92 = .ok (.getfield 97, 3) := by decide +kernel
theorem d_M_send_95 : decode prog_10_method_19_code 95 = .ok (.iload 12, 2) := by decide +kernel
theorem d_M_send_97 : decode prog_10_method_19_code 97 = .ok (.iconst 5, 1) := by decide +kernel
theorem d_M_send_98 : decode prog_10_method_19_code 98 = .ok (.iadd, 1) := by decide +kernel
theorem d_M_send_99 : decode prog_10_method_19_code 99 = .ok (.iload 6, 2) := by decide +kernel
theorem d_M_send_101 : decode prog_10_method_19_code 101 = .ok (.iastore, 1) := by decide +kernel
theorem d_M_send_102 : decode prog_10_method_19_code 102 = .ok (.aload_n 0, 1) := by decide +kernel
theorem d_M_send_103 : decode prog_10_method_19_code 103 = .ok (.getfield 97, 3) := by decide +kernel
theorem d_M_send_106 : decode prog_10_method_19_code 106 = .ok (.iload 12, 2) := by decide +kernel
theorem d_M_send_108 : decode prog_10_method_19_code 108 = .ok (.bipush 6, 2) := by decide +kernel
theorem d_M_send_110 : decode prog_10_method_19_code 110 = .ok (.iadd, 1) := by decide +kernel
theorem d_M_send_111 : decode prog_10_method_19_code 111 = .ok (.iload 7, 2) := by decide +kernel
theorem d_M_send_113 : decode prog_10_method_19_code 113 = .ok (.iastore, 1) := by decide +kernel
theorem d_M_send_114 : decode prog_10_method_19_code 114 = .ok (.aload_n 0, 1) := by decide +kernel
theorem d_M_send_115 : decode prog_10_method_19_code 115 = .ok (.getfield 97, 3) := by decide +kernel
theorem d_M_send_118 : decode prog_10_method_19_code 118 = .ok (.iload 12, 2) := by decide +kernel
theorem d_M_send_120 : decode prog_10_method_19_code 120 = .ok (.bipush 7, 2) := by decide +kernel
theorem d_M_send_122 : decode prog_10_method_19_code 122 = .ok (.iadd, 1) := by decide +kernel
theorem d_M_send_123 : decode prog_10_method_19_code 123 = .ok (.iload 8, 2) := by decide +kernel
theorem d_M_send_125 : decode prog_10_method_19_code 125 = .ok (.iastore, 1) := by decide +kernel
theorem d_M_send_126 : decode prog_10_method_19_code 126 = .ok (.aload_n 0, 1) := by decide +kernel
theorem d_M_send_127 : decode prog_10_method_19_code 127 = .ok (.getfield 97, 3) := by decide +kernel
theorem d_M_send_130 : decode prog_10_method_19_code 130 = .ok (.iload 12, 2) := by decide +kernel
theorem d_M_send_132 : decode prog_10_method_19_code 132 = .ok (.bipush 8, 2) := by decide +kernel
theorem d_M_send_134 : decode prog_10_method_19_code 134 = .ok (.iadd, 1) := by decide +kernel
theorem d_M_send_135 : decode prog_10_method_19_code 135 = .ok (.iload 9, 2) := by decide +kernel
theorem d_M_send_137 : decode prog_10_method_19_code 137 = .ok (.iastore, 1) := by decide +kernel
theorem d_M_send_138 : decode prog_10_method_19_code 138 = .ok (.iconst 0, 1) := by decide +kernel
theorem d_M_send_139 : decode prog_10_method_19_code 139 = .ok (.istore 13, 2) := by decide +kernel
theorem d_M_send_141 : decode prog_10_method_19_code 141 = .ok (.iload 13, 2) := by decide +kernel
theorem d_M_send_143 : decode prog_10_method_19_code 143 = .ok (.bipush 16, 2) := by decide +kernel
theorem d_M_send_145 : decode prog_10_method_19_code 145 = .ok (.if_icmp .ge 65, 3) := by decide +kernel
theorem d_M_send_148 : decode prog_10_method_19_code 148 = .ok (.aload_n 0, 1) := by decide +kernel
theorem d_M_send_149 : decode prog_10_method_19_code 149 = .ok (.getfield 97, 3) := by decide +kernel
theorem d_M_send_152 : decode prog_10_method_19_code 152 = .ok (.iload 12, 2) := by decide +kernel
theorem d_M_send_154 : decode prog_10_method_19_code 154 = .ok (.bipush 9, 2) := by decide +kernel
theorem d_M_send_156 : decode prog_10_method_19_code 156 = .ok (.iadd, 1) := by decide +kernel
theorem d_M_send_157 : decode prog_10_method_19_code 157 = .ok (.iconst 2, 1) := by decide +kernel
theorem d_M_send_158 : decode prog_10_method_19_code 158 = .ok (.iload 13, 2) := by decide +kernel
theorem d_M_send_160 : decode prog_10_method_19_code 160 = .ok (.imul, 1) := by decide +kernel
theorem d_M_send_161 : decode prog_10_method_19_code 161 = .ok (.iadd, 1) := by decide +kernel
theorem d_M_send_162 : decode prog_10_method_19_code 162 = .ok (.aload_n 0, 1) := by decide +kernel
theorem d_M_send_163 : decode prog_10_method_19_code 163 = .ok (.getfield 34, 3) := by decide +kernel
theorem d_M_send_166 : decode prog_10_method_19_code 166 = .ok (.bipush 16, 2) := by decide +kernel
theorem d_M_send_168 : decode prog_10_method_19_code 168 = .ok (.iload_n 2, 1) := by decide +kernel
theorem d_M_send_169 : decode prog_10_method_19_code 169 = .ok (.imul, 1) := by decide +kernel
theorem d_M_send_170 : decode prog_10_method_19_code 170 = .ok (.iload 13, 2) := by decide +kernel
theorem d_M_send_172 : decode prog_10_method_19_code 172 = .ok (.iadd, 1) := by decide +kernel
theorem d_M_send_173 : decode prog_10_method_19_code 173 = .ok (.iaload, 1) := by decide +kernel
theorem d_M_send_174 : decode prog_10_method_19_code 174 = .ok (.iastore, 1) := by decide +kernel
theorem d_M_send_175 : decode prog_10_method_19_code 175 = .ok (.aload_n 0, 1) := by decide +kernel
theorem d_M_send_176 : decode prog_10_method_19_code 176 = .ok (.getfield 97, 3) := by decide +kernel
theorem d_M_send_179 : decode prog_10_method_19_code 179 = .ok (.iload 12, 2) := by decide +kernel
theorem d_M_send_181 : decode prog_10_method_19_code 181 = .ok (.bipush 9, 2) := by decide +kernel
theorem d_M_send_183 : decode prog_10_method_19_code 183 = .ok (.iadd, 1) := by decide +kernel
theorem d_M_send_184 : decode prog_10_method_19_code 184 = .ok (.iconst 2, 1) := by decide +kernel
theorem d_M_send_185 : decode prog_10_method_19_code 185 = .ok (.iload 13, 2) := by decide +kernel
theorem d_M_send_187 : decode prog_10_method_19_code 187 = .ok (.imul, 1) := by decide +kernel
theorem d_M_send_188 : decode prog_10_method_19_code 188 = .ok (.iadd, 1) := by decide +kernel
theorem d_M_send_189 : decode prog_10_method_19_code 189 = .ok (.iconst 1, 1) := by decide +kernel
theorem d_M_send_190 : decode prog_10_method_19_code 190 = .ok (.iadd, 1) := by decide +kernel
theorem d_M_send_191 : decode prog_10_method_19_code 191 = .ok (.aload_n 0, 1) := by decide +kernel
theorem d_M_send_192 : decode prog_10_method_19_code 192 = .ok (.getfield 37, 3) := by decide +kernel
theorem d_M_send_195 : decode prog_10_method_19_code 195 = .ok (.bipush 16, 2) := by decide +kernel
theorem d_M_send_197 : decode prog_10_method_19_code 197 = .ok (.iload_n 2, 1) := by decide +kernel
theorem d_M_send_198 : decode prog_10_method_19_code 198 = .ok (.imul, 1) := by decide +kernel
theorem d_M_send_199 : decode prog_10_method_19_code 199 = .ok (.iload 13, 2) := by decide +kernel
theorem d_M_send_201 : decode prog_10_method_19_code 201 = .ok (.iadd, 1) := by decide +kernel
theorem d_M_send_202 : decode prog_10_method_19_code 202 = .ok (.iaload, 1) := by decide +kernel
theorem d_M_send_203 : decode prog_10_method_19_code 203 = .ok (.iastore, 1) := by decide +kernel
theorem d_M_send_204 : decode prog_10_method_19_code 204 = .ok (.iinc 13 1, 3) := by decide +kernel
theorem d_M_send_207 : decode prog_10_method_19_code 207 = .ok (.goto (-66), 3) := by decide +kernel
theorem d_M_send_210 : decode prog_10_method_19_code 210 = .ok (.iconst 0, 1) := by decide +kernel
theorem d_M_send_211 : decode prog_10_method_19_code 211 = .ok (.istore 13, 2) := by decide +kernel
theorem d_M_send_213 : decode prog_10_method_19_code 213 = .ok (.iload 13, 2) := by decide +kernel
theorem d_M_send_215 : decode prog_10_method_19_code 215 = .ok (.iconst 4, 1) := by decide +kernel
theorem d_M_send_216 : decode prog_10_method_19_code 216 = .ok (.if_icmp .ge 159, 3) := by decide +kernel
theorem d_M_send_219 : decode prog_10_method_19_code 219 = .ok (.iconst 4, 1) := by decide +kernel
theorem d_M_send_220 : decode prog_10_method_19_code 220 = .ok (.iload_n 2, 1) := by decide +kernel
theorem d_M_send_221 : decode prog_10_method_19_code 221 = .ok (.imul, 1) := by decide +kernel
theorem d_M_send_222 : decode prog_10_method_19_code 222 = .ok (.iload 13, 2) := by decide +kernel
theorem d_M_send_224 : decode prog_10_method_19_code 224 = .ok (.iadd, 1) := by decide +kernel
theorem d_M_send_225 : decode prog_10_method_19_code 225 = .ok (.istore 14, 2) := by decide +kernel
theorem d_M_send_227 : decode prog_10_method_19_code 227 = .ok (.aload_n 0, 1) := by decide +kernel
theorem d_M_send_228 : decode prog_10_method_19_code 228 = .ok (.getfield 97, 3) := by decide +kernel
theorem d_M_send_231 : decode prog_10_method_19_code 231 = .ok (.iload 12, 2) := by decide +kernel
theorem d_M_send_233 : decode prog_10_method_19_code 233 = .ok (.bipush 41, 2) := by decide +kernel
theorem d_M_send_235 : decode prog_10_method_19_code 235 = .ok (.iadd, 1) := by decide +kernel
theorem d_M_send_236 : decode prog_10_method_19_code 236 = .ok (.iconst 3, 1) := by decide +kernel
theorem d_M_send_237 : decode prog_10_method_19_code 237 = .ok (.iload 13, 2) := by decide +kernel
theorem d_M_send_239 : decode prog_10_method_19_code 239 = .ok (.imul, 1) := by decide +kernel
theorem d_M_send_240 : decode prog_10_method_19_code 240 = .ok (.iadd, 1) := by decide +kernel
theorem d_M_send_241 : decode prog_10_method_19_code 241 = .ok (.iload 10, 2) := by decide +kernel
theorem d_M_send_243 : decode prog_10_method_19_code 243 = .ok (.ifCond .eq 13, 3) := by decide +kernel
theorem d_M_send_246 : decode prog_10_method_19_code 246 = .ok (.aload_n 0, 1) := by decide +kernel
theorem d_M_send_247 : decode prog_10_method_19_code 247 = .ok (.getfield 25, 3) := by decide +kernel
theorem d_M_send_250 : decode prog_10_method_19_code 250 = .ok (.iload 14, 2) := by decide +kernel
theorem d_M_send_252 : decode prog_10_method_19_code 252 = .ok (.iaload, 1) := by decide +kernel
theorem d_M_send_253 : decode prog_10_method_19_code 253 = .ok (.goto 19, 3) := by decide +kernel
theorem d_M_send_256 : decode prog_10_method_19_code 256 = .ok (.iload 11, 2) := by decide +kernel
theorem d_M_send_258 : decode prog_10_method_19_code 258 = .ok (.ifCond .eq 13, 3) := by decide +kernel
theorem d_M_send_261 : decode prog_10_method_19_code 261 = .ok (.aload_n 0, 1) := by decide +kernel
theorem d_M_send_262 : decode prog_10_method_19_code 262 = .ok (.getfield 88, 3) := by decide +kernel
theorem d_M_send_265 : decode prog_10_method_19_code 265 = .ok (.iload 14, 2) := by decide +kernel
theorem d_M_send_267 : decode prog_10_method_19_code 267 = .ok (.iaload, 1) := by decide +kernel
theorem d_M_send_268 : decode prog_10_method_19_code 268 = .ok (.goto 4, 3) := by decide +kernel
theorem d_M_send_271 : decode prog_10_method_19_code 271 = .ok (.iconst 0, 1) := by decide +kernel
theorem d_M_send_272 : decode prog_10_method_19_code 272 = .ok (.iastore, 1) := by decide +kernel
theorem d_M_send_273 : decode prog_10_method_19_code 273 = .ok (.aload_n 0, 1) := by decide +kernel
theorem d_M_send_274 : decode prog_10_method_19_code 274 = .ok (.getfield 97, 3) := by decide +kernel
theorem d_M_send_277 : decode prog_10_method_19_code 277 = .ok (.iload 12, 2) := by decide +kernel
theorem d_M_send_279 : decode prog_10_method_19_code 279 = .ok (.bipush 41, 2) := by decide +kernel
theorem d_M_send_281 : decode prog_10_method_19_code 281 = .ok (.iadd, 1) := by decide +kernel
theorem d_M_send_282 : decode prog_10_method_19_code 282 = .ok (.iconst 3, 1) := by decide +kernel
theorem d_M_send_283 : decode prog_10_method_19_code 283 = .ok (.iload 13, 2) := by decide +kernel
theorem d_M_send_285 : decode prog_10_method_19_code 285 = .ok (.imul, 1) := by decide +kernel
theorem d_M_send_286 : decode prog_10_method_19_code 286 = .ok (.iadd, 1) := by decide +kernel
theorem d_M_send_287 : decode prog_10_method_19_code 287 = .ok (.iconst 1, 1) := by decide +kernel
theorem d_M_send_288 : decode prog_10_method_19_code 288 = .ok (.iadd, 1) := by decide +kernel
theorem d_M_send_289 : decode prog_10_method_19_code 289 = .ok (.iload 10, 2) := by decide +kernel
theorem d_M_send_291 : decode prog_10_method_19_code 291 = .ok (.ifCond .eq 13, 3) := by decide +kernel
theorem d_M_send_294 : decode prog_10_method_19_code 294 = .ok (.aload_n 0, 1) := by decide +kernel
theorem d_M_send_295 : decode prog_10_method_19_code 295 = .ok (.getfield 28, 3) := by decide +kernel
theorem d_M_send_298 : decode prog_10_method_19_code 298 = .ok (.iload 14, 2) := by decide +kernel
theorem d_M_send_300 : decode prog_10_method_19_code 300 = .ok (.iaload, 1) := by decide +kernel
theorem d_M_send_301 : decode prog_10_method_19_code 301 = .ok (.goto 19, 3) := by decide +kernel
theorem d_M_send_304 : decode prog_10_method_19_code 304 = .ok (.iload 11, 2) := by decide +kernel
theorem d_M_send_306 : decode prog_10_method_19_code 306 = .ok (.ifCond .eq 13, 3) := by decide +kernel
theorem d_M_send_309 : decode prog_10_method_19_code 309 = .ok (.aload_n 0, 1) := by decide +kernel
theorem d_M_send_310 : decode prog_10_method_19_code 310 = .ok (.getfield 91, 3) := by decide +kernel
theorem d_M_send_313 : decode prog_10_method_19_code 313 = .ok (.iload 14, 2) := by decide +kernel
theorem d_M_send_315 : decode prog_10_method_19_code 315 = .ok (.iaload, 1) := by decide +kernel
theorem d_M_send_316 : decode prog_10_method_19_code 316 = .ok (.goto 4, 3) := by decide +kernel
theorem d_M_send_319 : decode prog_10_method_19_code 319 = .ok (.iconst 0, 1) := by decide +kernel
theorem d_M_send_320 : decode prog_10_method_19_code 320 = .ok (.iastore, 1) := by decide +kernel
theorem d_M_send_321 : decode prog_10_method_19_code 321 = .ok (.aload_n 0, 1) := by decide +kernel
theorem d_M_send_322 : decode prog_10_method_19_code 322 = .ok (.getfield 97, 3) := by decide +kernel
theorem d_M_send_325 : decode prog_10_method_19_code 325 = .ok (.iload 12, 2) := by decide +kernel
theorem d_M_send_327 : decode prog_10_method_19_code 327 = .ok (.bipush 41, 2) := by decide +kernel
theorem d_M_send_329 : decode prog_10_method_19_code 329 = .ok (.iadd, 1) := by decide +kernel
theorem d_M_send_330 : decode prog_10_method_19_code 330 = .ok (.iconst 3, 1) := by decide +kernel
theorem d_M_send_331 : decode prog_10_method_19_code 331 = .ok (.iload 13, 2) := by decide +kernel
theorem d_M_send_333 : decode prog_10_method_19_code 333 = .ok (.imul, 1) := by decide +kernel
theorem d_M_send_334 : decode prog_10_method_19_code 334 = .ok (.iadd, 1) := by decide +kernel
theorem d_M_send_335 : decode prog_10_method_19_code 335 = .ok (.iconst 2, 1) := by decide +kernel
theorem d_M_send_336 : decode prog_10_method_19_code 336 = .ok (.iadd, 1) := by decide +kernel
theorem d_M_send_337 : decode prog_10_method_19_code 337 = .ok (.iload 10, 2) := by decide +kernel
theorem d_M_send_339 : decode prog_10_method_19_code 339 = .ok (.ifCond .eq 13, 3) := by decide +kernel
theorem d_M_send_342 : decode prog_10_method_19_code 342 = .ok (.aload_n 0, 1) := by decide +kernel
theorem d_M_send_343 : decode prog_10_method_19_code 343 = .ok (.getfield 31, 3) := by decide +kernel
theorem d_M_send_346 : decode prog_10_method_19_code 346 = .ok (.iload 14, 2) := by decide +kernel
theorem d_M_send_348 : decode prog_10_method_19_code 348 = .ok (.iaload, 1) := by decide +kernel
theorem d_M_send_349 : decode prog_10_method_19_code 349 = .ok (.goto 19, 3) := by decide +kernel
theorem d_M_send_352 : decode prog_10_method_19_code 352 = .ok (.iload 11, 2) := by decide +kernel
theorem d_M_send_354 : decode prog_10_method_19_code 354 = .ok (.ifCond .eq 13, 3) := by decide +kernel
theorem d_M_send_357 : decode prog_10_method_19_code 357 = .ok (.aload_n 0, 1) := by decide +kernel
theorem d_M_send_358 : decode prog_10_method_19_code 358 = .ok (.getfield 94, 3) := by decide +kernel
theorem d_M_send_361 : decode prog_10_method_19_code 361 = .ok (.iload 14, 2) := by decide +kernel
theorem d_M_send_363 : decode prog_10_method_19_code 363 = .ok (.iaload, 1) := by decide +kernel
theorem d_M_send_364 : decode prog_10_method_19_code 364 = .ok (.goto 4, 3) := by decide +kernel
theorem d_M_send_367 : decode prog_10_method_19_code 367 = .ok (.iconst 0, 1) := by decide +kernel
theorem d_M_send_368 : decode prog_10_method_19_code 368 = .ok (.iastore, 1) := by decide +kernel
theorem d_M_send_369 : decode prog_10_method_19_code 369 = .ok (.iinc 13 1, 3) := by decide +kernel
theorem d_M_send_372 : decode prog_10_method_19_code 372 = .ok (.goto (-159), 3) := by decide +kernel
theorem d_M_send_375 : decode prog_10_method_19_code 375 = .ok (.return_, 1) := by decide +kernel
theorem d_M_remove_0 : decode prog_10_method_20_code 0 = .ok (.aload_n 0, 1) := by decide +kernel
theorem d_M_remove_1 : decode prog_10_method_20_code 1 = .ok (.dup, 1) := by decide +kernel
theorem d_M_remove_2 : decode prog_10_method_20_code 2 = .ok (.getfield 129, 3) := by decide +kernel
theorem d_M_remove_5 : decode prog_10_method_20_code 5 = .ok (.iconst 1, 1) := by decide +kernel
theorem d_M_remove_6 : decode prog_10_method_20_code 6 = .ok (.isub, 1) := by decide +kernel
theorem d_M_remove_7 : decode prog_10_method_20_code 7 = .ok (.putfield 129, 3) := by decide +kernel
theorem d_M_remove_10 : decode prog_10_method_20_code 10 = .ok (.bipush 53, 2) := by decide +kernel
theorem d_M_remove_12 : decode prog_10_method_20_code 12 = .ok (.iload_n 1, 1) := by decide +kernel
theorem d_M_remove_13 : decode prog_10_method_20_code 13 = .ok (.imul, 1) := by decide +kernel
theorem d_M_remove_14 : decode prog_10_method_20_code 14 = .ok (.istore_n 2, 1) := by decide +kernel
theorem d_M_remove_15 : decode prog_10_method_20_code 15 = .ok (.iload_n 2, 1) := by decide +kernel
theorem d_M_remove_16 : decode prog_10_method_20_code 16 = .ok (.bipush 53, 2) := by decide +kernel
theorem d_M_remove_18 : decode prog_10_method_20_code 18 = .ok (.aload_n 0, 1) := by decide +kernel
theorem d_M_remove_19 : decode prog_10_method_20_code 19 = .ok (.getfield 129, 3) := by decide +kernel
theorem d_M_remove_22 : decode prog_10_method_20_code 22 = .ok (.imul, 1) := by decide +kernel
theorem d_M_remove_23 : decode prog_10_method_20_code 23 = .ok (.if_icmp .ge 24, 3) := by decide +kernel
theorem d_M_remove_26 : decode prog_10_method_20_code 26 = .ok (.aload_n 0, 1) := by decide +kernel
theorem d_M_remove_27 : decode prog_10_method_20_code 27 = .ok (.getfield 97, 3) := by decide +kernel
theorem d_M_remove_30 : decode prog_10_method_20_code 30 = .ok (.iload_n 2, 1) := by decide +kernel
theorem d_M_remove_31 : decode prog_10_method_20_code 31 = .ok (.aload_n 0, 1) := by decide +kernel
theorem d_M_remove_32 : decode prog_10_method_20_code 32 = .ok (.getfield 97, 3) := by decide +kernel
theorem d_M_remove_35 : decode prog_10_method_20_code 35 = .ok (.iload_n 2, 1) := by decide +kernel
theorem d_M_remove_36 : decode prog_10_method_20_code 36 = .ok (.bipush 53, 2) := by decide +kernel
theorem d_M_remove_38 : decode prog_10_method_20_code 38 = .ok (.iadd, 1) := by decide +kernel
theorem d_M_remove_39 : decode prog_10_method_20_code 39 = .ok (.iaload, 1) := by decide +kernel
theorem d_M_remove_40 : decode prog_10_method_20_code 40 = .ok (.iastore, 1) := by decide +kernel
theorem d_M_remove_41 : decode prog_10_method_20_code 41 = .ok (.iinc 2 1, 3) := by decide +kernel
theorem d_M_remove_44 : decode prog_10_method_20_code 44 = .ok (.goto (-29), 3) := by decide +kernel
theorem d_M_remove_47 : decode prog_10_method_20_code 47 = .ok (.return_, 1) := by decide +kernel
theorem d_M_best_0 : decode prog_10_method_21_code 0 = .ok (.iconst 4, 1) := by decide +kernel
theorem d_M_best_1 : decode prog_10_method_21_code 1 = .ok (.iload_n 1, 1) := by decide +kernel
theorem d_M_best_2 : decode prog_10_method_21_code 2 = .ok (.imul, 1) := by decide +kernel
theorem d_M_best_3 : decode prog_10_method_21_code 3 = .ok (.iload_n 2, 1) := by decide +kernel
theorem d_M_best_4 : decode prog_10_method_21_code 4 = .ok (.iadd, 1) := by decide +kernel
theorem d_M_best_5 : decode prog_10_method_21_code 5 = .ok (.istore 6, 2) := by decide +kernel
theorem d_M_best_7 : decode prog_10_method_21_code 7 = .ok (.iload_n 3, 1) := by decide +kernel
theorem d_M_best_8 : decode prog_10_method_21_code 8 = .ok (.iload 4, 2) := by decide +kernel
theorem d_M_best_10 : decode prog_10_method_21_code 10 = .ok (.aload_n 0, 1) := by decide +kernel
theorem d_M_best_11 : decode prog_10_method_21_code 11 = .ok (.getfield 88, 3) := by decide +kernel
theorem d_M_best_14 : decode prog_10_method_21_code 14 = .ok (.iload 6, 2) := by decide +kernel
theorem d_M_best_16 : decode prog_10_method_21_code 16 = .ok (.iaload, 1) := by decide +kernel
theorem d_M_best_17 : decode prog_10_method_21_code 17 = .ok (.aload_n 0, 1) := by decide +kernel
theorem d_M_best_18 : decode prog_10_method_21_code 18 = .ok (.getfield 91, 3) := by decide +kernel
theorem d_M_best_21 : decode prog_10_method_21_code 21 = .ok (.iload 6, 2) := by decide +kernel
theorem d_M_best_23 : decode prog_10_method_21_code 23 = .ok (.iaload, 1) := by decide +kernel
theorem d_M_best_24 : decode prog_10_method_21_code 24 = .ok (.invokestatic 125, 3) := by decide +kernel
theorem d_M_best_27 : decode prog_10_method_21_code 27 = .ok (.ifCond .ne 4, 3) := by decide +kernel
theorem d_M_best_30 : decode prog_10_method_21_code 30 = .ok (.return_, 1) := by decide +kernel
theorem d_M_best_31 : decode prog_10_method_21_code 31 = .ok (.aload_n 0, 1) := by decide +kernel
theorem d_M_best_32 : decode prog_10_method_21_code 32 = .ok (.getfield 88, 3) := by decide +kernel
theorem d_M_best_35 : decode prog_10_method_21_code 35 = .ok (.iload 6, 2) := by decide +kernel
theorem d_M_best_37 : decode prog_10_method_21_code 37 = .ok (.iload_n 3, 1) := by decide +kernel
theorem d_M_best_38 : decode prog_10_method_21_code 38 = .ok (.iastore, 1) := by decide +kernel
theorem d_M_best_39 : decode prog_10_method_21_code 39 = .ok (.aload_n 0, 1) := by decide +kernel
theorem d_M_best_40 : decode prog_10_method_21_code 40 = .ok (.getfield 91, 3) := by decide +kernel
theorem d_M_best_43 : decode prog_10_method_21_code 43 = .ok (.iload 6, 2) := by decide +kernel
theorem d_M_best_45 : decode prog_10_method_21_code 45 = .ok (.iload 4, 2) := by decide +kernel
theorem d_M_best_47 : decode prog_10_method_21_code 47 = .ok (.iastore, 1) := by decide +kernel
theorem d_M_best_48 : decode prog_10_method_21_code 48 = .ok (.aload_n 0, 1) := by decide +kernel
theorem d_M_best_49 : decode prog_10_method_21_code 49 = .ok (.getfield 94, 3) := by decide +kernel
theorem d_M_best_52 : decode prog_10_method_21_code 52 = .ok (.iload 6, 2) := by decide +kernel
theorem d_M_best_54 : decode prog_10_method_21_code 54 = .ok (.iload 5, 2) := by decide +kernel
theorem d_M_best_56 : decode prog_10_method_21_code 56 = .ok (.iastore, 1) := by decide +kernel
theorem d_M_best_57 : decode prog_10_method_21_code 57 = .ok (.return_, 1) := by decide +kernel
theorem d_M_bestIsOwn_0 : decode prog_10_method_22_code 0 = .ok (.iconst 0, 1) := by decide +kernel
theorem d_M_bestIsOwn_1 : decode prog_10_method_22_code 1 = .ok (.istore_n 2, 1) := by decide +kernel
theorem d_M_bestIsOwn_2 : decode prog_10_method_22_code 2 = .ok (.iload_n 2, 1) := by decide +kernel
theorem d_M_bestIsOwn_3 : decode prog_10_method_22_code 3 = .ok (.iconst 4, 1) := by decide +kernel
theorem d_M_bestIsOwn_4 : decode prog_10_method_22_code 4 = .ok (.if_icmp .ge 51, 3) := by decide +kernel
theorem d_M_bestIsOwn_7 : decode prog_10_method_22_code 7 = .ok (.iconst 4, 1) := by decide +kernel
theorem d_M_bestIsOwn_8 : decode prog_10_method_22_code 8 = .ok (.iload_n 1, 1) := by decide +kernel
theorem d_M_bestIsOwn_9 : decode prog_10_method_22_code 9 = .ok (.imul, 1) := by decide +kernel
theorem d_M_bestIsOwn_10 : decode prog_10_method_22_code 10 = .ok (.iload_n 2, 1) := by decide +kernel
theorem d_M_bestIsOwn_11 : decode prog_10_method_22_code 11 = .ok (.iadd, 1) := by decide +kernel
theorem d_M_bestIsOwn_12 : decode prog_10_method_22_code 12 = .ok (.istore_n 3, 1) := by decide +kernel
theorem d_M_bestIsOwn_13 : decode prog_10_method_22_code 13 = .ok (.aload_n 0, 1) := by decide +kernel
theorem d_M_bestIsOwn_14 : decode prog_10_method_22_code 14 = .ok (.getfield 88, 3) := by decide +kernel
theorem d_M_bestIsOwn_17 : decode prog_10_method_22_code 17 = .ok (.iload_n 3, 1) := by decide +kernel
theorem d_M_bestIsOwn_18 : decode prog_10_method_22_code 18 = .ok (.aload_n 0, 1) := by decide +kernel
theorem d_M_bestIsOwn_19 : decode prog_10_method_22_code 19 = .ok (.getfield 25, 3) := by decide +kernel
theorem d_M_bestIsOwn_22 : decode prog_10_method_22_code 22 = .ok (.iload_n 3, 1) := by decide +kernel
theorem d_M_bestIsOwn_23 : decode prog_10_method_22_code 23 = .ok (.iaload, 1) := by decide +kernel
theorem d_M_bestIsOwn_24 : decode prog_10_method_22_code 24 = .ok (.iastore, 1) := by decide +kernel
theorem d_M_bestIsOwn_25 : decode prog_10_method_22_code 25 = .ok (.aload_n 0, 1) := by decide +kernel
theorem d_M_bestIsOwn_26 : decode prog_10_method_22_code 26 = .ok (.getfield 91, 3) := by decide +kernel
theorem d_M_bestIsOwn_29 : decode prog_10_method_22_code 29 = .ok (.iload_n 3, 1) := by decide +kernel
theorem d_M_bestIsOwn_30 : decode prog_10_method_22_code 30 = .ok (.aload_n 0, 1) := by decide +kernel
theorem d_M_bestIsOwn_31 : decode prog_10_method_22_code 31 = .ok (.getfield 28, 3) := by decide +kernel
theorem d_M_bestIsOwn_34 : decode prog_10_method_22_code 34 = .ok (.iload_n 3, 1) := by decide +kernel
theorem d_M_bestIsOwn_35 : decode prog_10_method_22_code 35 = .ok (.iaload, 1) := by decide +kernel
theorem d_M_bestIsOwn_36 : decode prog_10_method_22_code 36 = .ok (.iastore, 1) := by decide +kernel
theorem d_M_bestIsOwn_37 : decode prog_10_method_22_code 37 = .ok (.aload_n 0, 1) := by decide +kernel
theorem d_M_bestIsOwn_38 : decode prog_10_method_22_code 38 = .ok (.getfield 94, 3) := by decide +kernel
theorem d_M_bestIsOwn_41 : decode prog_10_method_22_code 41 = .ok (.iload_n 3, 1) := by decide +kernel
theorem d_M_bestIsOwn_42 : decode prog_10_method_22_code 42 = .ok (.aload_n 0, 1) := by decide +kernel
theorem d_M_bestIsOwn_43 : decode prog_10_method_22_code 43 = .ok (.getfield 31, 3) := by decide +kernel
theorem d_M_bestIsOwn_46 : decode prog_10_method_22_code 46 = .ok (.iload_n 3, 1) := by decide +kernel
theorem d_M_bestIsOwn_47 : decode prog_10_method_22_code 47 = .ok (.iaload, 1) := by decide +kernel
theorem d_M_bestIsOwn_48 : decode prog_10_method_22_code 48 = .ok (.iastore, 1) := by decide +kernel
theorem d_M_bestIsOwn_49 : decode prog_10_method_22_code 49 = .ok (.iinc 2 1, 3) := by decide +kernel
theorem d_M_bestIsOwn_52 : decode prog_10_method_22_code 52 = .ok (.goto (-50), 3) := by decide +kernel
theorem d_M_bestIsOwn_55 : decode prog_10_method_22_code 55 = .ok (.return_, 1) := by decide +kernel
theorem d_M_top_0 : decode prog_10_method_23_code 0 = .ok (.iload_n 2, 1) := by decide +kernel
theorem d_M_top_1 : decode prog_10_method_23_code 1 = .ok (.aload_n 0, 1) := by decide +kernel
theorem d_M_top_2 : decode prog_10_method_23_code 2 = .ok (.getfield 82, 3) := by decide +kernel
theorem d_M_top_5 : decode prog_10_method_23_code 5 = .ok (.iload_n 1, 1) := by decide +kernel
theorem d_M_top_6 : decode prog_10_method_23_code 6 = .ok (.iaload, 1) := by decide +kernel
theorem d_M_top_7 : decode prog_10_method_23_code 7 = .ok (.if_icmp .gt 4, 3) := by decide +kernel
theorem d_M_top_10 : decode prog_10_method_23_code 10 = .ok (.return_, 1) := by decide +kernel
theorem d_M_top_11 : decode prog_10_method_23_code 11 = .ok (.aload_n 0, 1) := by decide +kernel
theorem d_M_top_12 : decode prog_10_method_23_code 12 = .ok (.getfield 82, 3) := by decide +kernel
theorem d_M_top_15 : decode prog_10_method_23_code 15 = .ok (.iload_n 1, 1) := by decide +kernel
theorem d_M_top_16 : decode prog_10_method_23_code 16 = .ok (.iload_n 2, 1) := by decide +kernel
theorem d_M_top_17 : decode prog_10_method_23_code 17 = .ok (.iastore, 1) := by decide +kernel
theorem d_M_top_18 : decode prog_10_method_23_code 18 = .ok (.aload_n 0, 1) := by decide +kernel
theorem d_M_top_19 : decode prog_10_method_23_code 19 = .ok (.getfield 85, 3) := by decide +kernel
theorem d_M_top_22 : decode prog_10_method_23_code 22 = .ok (.iload_n 1, 1) := by decide +kernel
theorem d_M_top_23 : decode prog_10_method_23_code 23 = .ok (.iload_n 3, 1) := by decide +kernel
theorem d_M_top_24 : decode prog_10_method_23_code 24 = .ok (.iastore, 1) := by decide +kernel
theorem d_M_top_25 : decode prog_10_method_23_code 25 = .ok (.return_, 1) := by decide +kernel
theorem d_M_isData_0 : decode prog_10_method_24_code 0 = .ok (.aload_n 0, 1) := by decide +kernel
theorem d_M_isData_1 : decode prog_10_method_24_code 1 = .ok (.getfield 52, 3) := by decide +kernel
theorem d_M_isData_4 : decode prog_10_method_24_code 4 = .ok (.iload_n 1, 1) := by decide +kernel
theorem d_M_isData_5 : decode prog_10_method_24_code 5 = .ok (.iaload, 1) := by decide +kernel
theorem d_M_isData_6 : decode prog_10_method_24_code 6 = .ok (.iconst 1, 1) := by decide +kernel
theorem d_M_isData_7 : decode prog_10_method_24_code 7 = .ok (.if_icmp .eq 13, 3) := by decide +kernel
theorem d_M_isData_10 : decode prog_10_method_24_code 10 = .ok (.aload_n 0, 1) := by decide +kernel
theorem d_M_isData_11 : decode prog_10_method_24_code 11 = .ok (.getfield 52, 3) := by decide +kernel
theorem d_M_isData_14 : decode prog_10_method_24_code 14 = .ok (.iload_n 1, 1) := by decide +kernel
theorem d_M_isData_15 : decode prog_10_method_24_code 15 = .ok (.iaload, 1) := by decide +kernel
theorem d_M_isData_16 : decode prog_10_method_24_code 16 = .ok (.iconst 2, 1) := by decide +kernel
theorem d_M_isData_17 : decode prog_10_method_24_code 17 = .ok (.if_icmp .ne 7, 3) := by decide +kernel
theorem d_M_isData_20 : decode prog_10_method_24_code 20 = .ok (.iconst 1, 1) := by decide +kernel
theorem d_M_isData_21 : decode prog_10_method_24_code 21 = .ok (.goto 4, 3) := by decide +kernel
theorem d_M_isData_24 : decode prog_10_method_24_code 24 = .ok (.iconst 0, 1) := by decide +kernel
theorem d_M_isData_25 : decode prog_10_method_24_code 25 = .ok (.ireturn, 1) := by decide +kernel
theorem d_M_chosen_0 : decode prog_10_method_25_code 0 = .ok (.aload_n 0, 1) := by decide +kernel
theorem d_M_chosen_1 : decode prog_10_method_25_code 1 = .ok (.getfield 82, 3) := by decide +kernel
theorem d_M_chosen_4 : decode prog_10_method_25_code 4 = .ok (.iload_n 1, 1) := by decide +kernel
theorem d_M_chosen_5 : decode prog_10_method_25_code 5 = .ok (.iaload, 1) := by decide +kernel
theorem d_M_chosen_6 : decode prog_10_method_25_code 6 = .ok (.ifCond .le 12, 3) := by decide +kernel
theorem d_M_chosen_9 : decode prog_10_method_25_code 9 = .ok (.aload_n 0, 1) := by decide +kernel
theorem d_M_chosen_10 : decode prog_10_method_25_code 10 = .ok (.getfield 85, 3) := by decide +kernel
theorem d_M_chosen_13 : decode prog_10_method_25_code 13 = .ok (.iload_n 1, 1) := by decide +kernel
theorem d_M_chosen_14 : decode prog_10_method_25_code 14 = .ok (.iaload, 1) := by decide +kernel
theorem d_M_chosen_15 : decode prog_10_method_25_code 15 = .ok (.goto 9, 3) := by decide +kernel
theorem d_M_chosen_18 : decode prog_10_method_25_code 18 = .ok (.aload_n 0, 1) := by decide +kernel
theorem d_M_chosen_19 : decode prog_10_method_25_code 19 = .ok (.getfield 70, 3) := by decide +kernel
theorem d_M_chosen_22 : decode prog_10_method_25_code 22 = .ok (.iload_n 1, 1) := by decide +kernel
theorem d_M_chosen_23 : decode prog_10_method_25_code 23 = .ok (.iaload, 1) := by decide +kernel
