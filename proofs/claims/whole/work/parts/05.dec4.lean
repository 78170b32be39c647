theorem d_Co_takeGreater_21 : decode prog_2_method_7_code 21 = .ok (.ifCond .eq 9, 3) := by decide +kernel
theorem d_Co_takeGreater_24 : decode prog_2_method_7_code 24 = .ok (.aload_n 0, 1) := by decide +kernel
theorem d_Co_takeGreater_25 : decode prog_2_method_7_code 25 = .ok (.iload_n 3, 1) := by decide +kernel
theorem d_Co_takeGreater_26 : decode prog_2_method_7_code 26 = .ok (.aload_n 1, 1) := by decide +kernel
theorem d_Co_takeGreater_27 : decode prog_2_method_7_code 27 = .ok (.invokevirtual 39, 3) := by decide +kernel
theorem d_Co_takeGreater_30 : decode prog_2_method_7_code 30 = .ok (.iinc 3 1, 3) := by decide +kernel
theorem d_Co_takeGreater_33 : decode prog_2_method_7_code 33 = .ok (.goto (-31), 3) := by decide +kernel
theorem d_Co_takeGreater_36 : decode prog_2_method_7_code 36 = .ok (.return_, 1) := by decide +kernel
theorem d_Co_putFrom_0 : decode prog_2_method_8_code 0 = .ok (.iload_n 1, 1) := by decide +kernel
theorem d_Co_putFrom_1 : decode prog_2_method_8_code 1 = .ok (.invokestatic 21, 3) := by decide +kernel
theorem d_Co_putFrom_4 : decode prog_2_method_8_code 4 = .ok (.ifCond .eq 39, 3) := by decide +kernel
theorem d_Co_putFrom_7 : decode prog_2_method_8_code 7 = .ok (.aload_n 0, 1) := by decide +kernel
theorem d_Co_putFrom_8 : decode prog_2_method_8_code 8 = .ok (.getfield 9, 3) := by decide +kernel
theorem d_Co_putFrom_11 : decode prog_2_method_8_code 11 = .ok (.iload_n 1, 1) := by decide +kernel
theorem d_Co_putFrom_12 : decode prog_2_method_8_code 12 = .ok (.aload_n 2, 1) := by decide +kernel
theorem d_Co_putFrom_13 : decode prog_2_method_8_code 13 = .ok (.getfield 9, 3) := by decide +kernel
theorem d_Co_putFrom_16 : decode prog_2_method_8_code 16 = .ok (.iload_n 1, 1) := by decide +kernel
theorem d_Co_putFrom_17 : decode prog_2_method_8_code 17 = .ok (.iaload, 1) := by decide +kernel
theorem d_Co_putFrom_18 : decode prog_2_method_8_code 18 = .ok (.iastore, 1) := by decide +kernel
theorem d_Co_putFrom_19 : decode prog_2_method_8_code 19 = .ok (.aload_n 0, 1) := by decide +kernel
theorem d_Co_putFrom_20 : decode prog_2_method_8_code 20 = .ok (.getfield 15, 3) := by decide +kernel
theorem d_Co_putFrom_23 : decode prog_2_method_8_code 23 = .ok (.iload_n 1, 1) := by decide +kernel
theorem d_Co_putFrom_24 : decode prog_2_method_8_code 24 = .ok (.aload_n 2, 1) := by decide +kernel
theorem d_Co_putFrom_25 : decode prog_2_method_8_code 25 = .ok (.getfield 15, 3) := by decide +kernel
theorem d_Co_putFrom_28 : decode prog_2_method_8_code 28 = .ok (.iload_n 1, 1) := by decide +kernel
theorem d_Co_putFrom_29 : decode prog_2_method_8_code 29 = .ok (.iaload, 1) := by decide +kernel
theorem d_Co_putFrom_30 : decode prog_2_method_8_code 30 = .ok (.iastore, 1) := by decide +kernel
theorem d_Co_putFrom_31 : decode prog_2_method_8_code 31 = .ok (.aload_n 0, 1) := by decide +kernel
theorem d_Co_putFrom_32 : decode prog_2_method_8_code 32 = .ok (.getfield 18, 3) := by decide +kernel
theorem d_Co_putFrom_35 : decode prog_2_method_8_code 35 = .ok (.iload_n 1, 1) := by decide +kernel
theorem d_Co_putFrom_36 : decode prog_2_method_8_code 36 = .ok (.aload_n 2, 1) := by decide +kernel
theorem d_Co_putFrom_37 : decode prog_2_method_8_code 37 = .ok (.getfield 18, 3) := by decide +kernel
theorem d_Co_putFrom_40 : decode prog_2_method_8_code 40 = .ok (.iload_n 1, 1) := by decide +kernel
theorem d_Co_putFrom_41 : decode prog_2_method_8_code 41 = .ok (.iaload, 1) := by decide +kernel
theorem d_Co_putFrom_42 : decode prog_2_method_8_code 42 = .ok (.iastore, 1) := by decide +kernel
theorem d_Co_putFrom_43 : decode prog_2_method_8_code 43 = .ok (.return_, 1) := by decide +kernel
theorem d_Co_isLess_0 : decode prog_2_method_9_code 0 = .ok (.iload_n 1, 1) := by decide +kernel
theorem d_Co_isLess_1 : decode prog_2_method_9_code 1 = .ok (.invokestatic 21, 3) := by decide +kernel
theorem d_Co_isLess_4 : decode prog_2_method_9_code 4 = .ok (.ifCond .ne 5, 3) := by decide +kernel
theorem d_Co_isLess_7 : decode prog_2_method_9_code 7 = .ok (.iconst 0, 1) := by decide +kernel
theorem d_Co_isLess_8 : decode prog_2_method_9_code 8 = .ok (.ireturn, 1) := by decide +kernel
theorem d_Co_isLess_9 : decode prog_2_method_9_code 9 = .ok (.aload_n 0, 1) := by decide +kernel
theorem d_Co_isLess_10 : decode prog_2_method_9_code 10 = .ok (.getfield 9, 3) := by decide +kernel
theorem d_Co_isLess_13 : decode prog_2_method_9_code 13 = .ok (.iload_n 1, 1) := by decide +kernel
theorem d_Co_isLess_14 : decode prog_2_method_9_code 14 = .ok (.iaload, 1) := by decide +kernel
theorem d_Co_isLess_15 : decode prog_2_method_9_code 15 = .ok (.istore_n 3, 1) := by decide +kernel
theorem d_Co_isLess_16 : decode prog_2_method_9_code 16 = .ok (.aload_n 2, 1) := by decide +kernel
theorem d_Co_isLess_17 : decode prog_2_method_9_code 17 = .ok (.getfield 9, 3) := by decide +kernel
theorem d_Co_isLess_20 : decode prog_2_method_9_code 20 = .ok (.iload_n 1, 1) := by decide +kernel
theorem d_Co_isLess_21 : decode prog_2_method_9_code 21 = .ok (.iaload, 1) := by decide +kernel
theorem d_Co_isLess_22 : decode prog_2_method_9_code 22 = .ok (.istore 4, 2) := by decide +kernel
theorem d_Co_isLess_24 : decode prog_2_method_9_code 24 = .ok (.iload_n 3, 1) := by decide +kernel
theorem d_Co_isLess_25 : decode prog_2_method_9_code 25 = .ok (.iload 4, 2) := by decide +kernel
theorem d_Co_isLess_27 : decode prog_2_method_9_code 27 = .ok (.if_icmp .lt 24, 3) := by decide +kernel
theorem d_Co_isLess_30 : decode prog_2_method_9_code 30 = .ok (.iload_n 3, 1) := by decide +kernel
theorem d_Co_isLess_31 : decode prog_2_method_9_code 31 = .ok (.iload 4, 2) := by decide +kernel
theorem d_Co_isLess_33 : decode prog_2_method_9_code 33 = .ok (.if_icmp .ne 22, 3) := by decide +kernel
theorem d_Co_isLess_36 : decode prog_2_method_9_code 36 = .ok (.aload_n 0, 1) := by decide +kernel
theorem d_Co_isLess_37 : decode prog_2_method_9_code 37 = .ok (.getfield 15, 3) := by decide +kernel
theorem d_Co_isLess_40 : decode prog_2_method_9_code 40 = .ok (.iload_n 1, 1) := by decide +kernel
theorem d_Co_isLess_41 : decode prog_2_method_9_code 41 = .ok (.iaload, 1) := by decide +kernel
theorem d_Co_isLess_42 : decode prog_2_method_9_code 42 = .ok (.aload_n 2, 1) := by decide +kernel
theorem d_Co_isLess_43 : decode prog_2_method_9_code 43 = .ok (.getfield 15, 3) := by decide +kernel
theorem d_Co_isLess_46 : decode prog_2_method_9_code 46 = .ok (.iload_n 1, 1) := by decide +kernel
theorem d_Co_isLess_47 : decode prog_2_method_9_code 47 = .ok (.iaload, 1) := by decide +kernel
theorem d_Co_isLess_48 : decode prog_2_method_9_code 48 = .ok (.if_icmp .ge 7, 3) := by decide +kernel
theorem d_Co_isLess_51 : decode prog_2_method_9_code 51 = .ok (.iconst 1, 1) := by decide +kernel
theorem d_Co_isLess_52 : decode prog_2_method_9_code 52 = .ok (.goto 4, 3) := by decide +kernel
theorem d_Co_isLess_55 : decode prog_2_method_9_code 55 = .ok (.iconst 0, 1) := by decide +kernel
theorem d_Co_isLess_56 : decode prog_2_method_9_code 56 = .ok (.ireturn, 1) := by decide +kernel
theorem d_Ma_init_0 : decode prog_3_method_1_code 0 = .ok (.aload_n 0, 1) := by decide +kernel
theorem d_Ma_init_1 : decode prog_3_method_1_code 1 = .ok (.invokespecial 3, 3) := by decide +kernel
theorem d_Ma_init_4 : decode prog_3_method_1_code 4 = .ok (.aload_n 0, 1) := by decide +kernel
theorem d_Ma_init_5 : decode prog_3_method_1_code 5 = .ok (.bipush 120, 2) := by decide +kernel
theorem d_Ma_init_7 : decode prog_3_method_1_code 7 = .ok (.anewarray 9, 3) := by decide +kernel
theorem d_Ma_init_10 : decode prog_3_method_1_code 10 = .ok (.putfield 11, 3) := by decide +kernel
theorem d_Ma_init_13 : decode prog_3_method_1_code 13 = .ok (.aload_n 0, 1) := by decide +kernel
theorem d_Ma_init_14 : decode prog_3_method_1_code 14 = .ok (.new 9, 3) := by decide +kernel
theorem d_Ma_init_17 : decode prog_3_method_1_code 17 = .ok (.dup, 1) := by decide +kernel
theorem d_Ma_init_18 : decode prog_3_method_1_code 18 = .ok (.invokespecial 17, 3) := by decide +kernel
theorem d_Ma_init_21 : decode prog_3_method_1_code 21 = .ok (.putfield 18, 3) := by decide +kernel
theorem d_Ma_init_24 : decode prog_3_method_1_code 24 = .ok (.aload_n 0, 1) := by decide +kernel
theorem d_Ma_init_25 : decode prog_3_method_1_code 25 = .ok (.iconst 0, 1) := by decide +kernel
theorem d_Ma_init_26 : decode prog_3_method_1_code 26 = .ok (.putfield 22, 3) := by decide +kernel
theorem d_Ma_init_29 : decode prog_3_method_1_code 29 = .ok (.aload_n 0, 1) := by decide +kernel
theorem d_Ma_init_30 : decode prog_3_method_1_code 30 = .ok (.iconst 0, 1) := by decide +kernel
theorem d_Ma_init_31 : decode prog_3_method_1_code 31 = .ok (.putfield 26, 3) := by decide +kernel
theorem d_Ma_init_34 : decode prog_3_method_1_code 34 = .ok (.iconst 0, 1) := by decide +kernel
theorem d_Ma_init_35 : decode prog_3_method_1_code 35 = .ok (.istore_n 1, 1) := by decide +kernel
theorem d_Ma_init_36 : decode prog_3_method_1_code 36 = .ok (.iload_n 1, 1) := by decide +kernel
theorem d_Ma_init_37 : decode prog_3_method_1_code 37 = .ok (.bipush 120, 2) := by decide +kernel
theorem d_Ma_init_39 : decode prog_3_method_1_code 39 = .ok (.if_icmp .ge 22, 3) := by decide +kernel
theorem d_Ma_init_42 : decode prog_3_method_1_code 42 = .ok (.aload_n 0, 1) := by decide +kernel
theorem d_Ma_init_43 : decode prog_3_method_1_code 43 = .ok (.getfield 11, 3) := by decide +kernel
theorem d_Ma_init_46 : decode prog_3_method_1_code 46 = .ok (.iload_n 1, 1) := by decide +kernel
theorem d_Ma_init_47 : decode prog_3_method_1_code 47 = .ok (.new 9, 3) := by decide +kernel
theorem d_Ma_init_50 : decode prog_3_method_1_code 50 = .ok (.dup, 1) := by decide +kernel
theorem d_Ma_init_51 : decode prog_3_method_1_code 51 = .ok (.invokespecial 17, 3) := by decide +kernel
theorem d_Ma_init_54 : decode prog_3_method_1_code 54 = .ok (.aastore, 1) := by decide +kernel
theorem d_Ma_init_55 : decode prog_3_method_1_code 55 = .ok (.iinc 1 1, 3) := by decide +kernel
theorem d_Ma_init_58 : decode prog_3_method_1_code 58 = .ok (.goto (-22), 3) := by decide +kernel
theorem d_Ma_init_61 : decode prog_3_method_1_code 61 = .ok (.return_, 1) := by decide +kernel
theorem d_Ma_row_0 : decode prog_3_method_2_code 0 = .ok (.iload_n 1, 1) := by decide +kernel
theorem d_Ma_row_1 : decode prog_3_method_2_code 1 = .ok (.ifCond .lt 26, 3) := by decide +kernel
theorem d_Ma_row_4 : decode prog_3_method_2_code 4 = .ok (.iload_n 1, 1) := by decide +kernel
theorem d_Ma_row_5 : decode prog_3_method_2_code 5 = .ok (.aload_n 0, 1) := by decide +kernel
theorem d_Ma_row_6 : decode prog_3_method_2_code 6 = .ok (.getfield 22, 3) := by decide +kernel
theorem d_Ma_row_9 : decode prog_3_method_2_code 9 = .ok (.if_icmp .ge 18, 3) := by decide +kernel
theorem d_Ma_row_12 : decode prog_3_method_2_code 12 = .ok (.iload_n 1, 1) := by decide +kernel
theorem d_Ma_row_13 : decode prog_3_method_2_code 13 = .ok (.bipush 120, 2) := by decide +kernel
theorem d_Ma_row_15 : decode prog_3_method_2_code 15 = .ok (.if_icmp .ge 12, 3) := by decide +kernel
theorem d_Ma_row_18 : decode prog_3_method_2_code 18 = .ok (.aload_n 0, 1) := by decide +kernel
theorem d_Ma_row_19 : decode prog_3_method_2_code 19 = .ok (.getfield 11, 3) := by decide +kernel
theorem d_Ma_row_22 : decode prog_3_method_2_code 22 = .ok (.iload_n 1, 1) := by decide +kernel
theorem d_Ma_row_23 : decode prog_3_method_2_code 23 = .ok (.aaload, 1) := by decide +kernel
theorem d_Ma_row_24 : decode prog_3_method_2_code 24 = .ok (.goto 4, 3) := by decide +kernel
theorem d_Ma_row_27 : decode prog_3_method_2_code 27 = .ok (.aconst_null, 1) := by decide +kernel
theorem d_Ma_row_28 : decode prog_3_method_2_code 28 = .ok (.areturn, 1) := by decide +kernel
theorem d_Ma_send_0 : decode prog_3_method_3_code 0 = .ok (.aload_n 0, 1) := by decide +kernel
theorem d_Ma_send_1 : decode prog_3_method_3_code 1 = .ok (.getfield 22, 3) := by decide +kernel
theorem d_Ma_send_4 : decode prog_3_method_3_code 4 = .ok (.bipush 120, 2) := by decide +kernel
theorem d_Ma_send_6 : decode prog_3_method_3_code 6 = .ok (.if_icmp .lt 14, 3) := by decide +kernel
theorem d_Ma_send_9 : decode prog_3_method_3_code 9 = .ok (.aload_n 0, 1) := by decide +kernel
theorem d_Ma_send_10 : decode prog_3_method_3_code 10 = .ok (.dup, 1) := by decide +kernel
theorem d_Ma_send_11 : decode prog_3_method_3_code 11 = .ok (.getfield 26, 3) := by decide +kernel
theorem d_Ma_send_14 : decode prog_3_method_3_code 14 = .ok (.iconst 1, 1) := by decide +kernel
theorem d_Ma_send_15 : decode prog_3_method_3_code 15 = .ok (.iadd, 1) := by decide +kernel
theorem d_Ma_send_16 : decode prog_3_method_3_code 16 = .ok (.putfield 26, 3) := by decide +kernel
theorem d_Ma_send_19 : decode prog_3_method_3_code 19 = .ok (.return_, 1) := by decide +kernel
theorem d_Ma_send_20 : decode prog_3_method_3_code 20 = .ok (.aload_n 0, 1) := by decide +kernel
theorem d_Ma_send_21 : decode prog_3_method_3_code 21 = .ok (.getfield 11, 3) := by decide +kernel
theorem d_Ma_send_24 : decode prog_3_method_3_code 24 = .ok (.aload_n 0, 1) := by decide +kernel
theorem d_Ma_send_25 : decode prog_3_method_3_code 25 = .ok (.getfield 22, 3) := by decide +kernel
theorem d_Ma_send_28 : decode prog_3_method_3_code 28 = .ok (.aaload, 1) := by decide +kernel
theorem d_Ma_send_29 : decode prog_3_method_3_code 29 = .ok (.aload_n 1, 1) := by decide +kernel
theorem d_Ma_send_30 : decode prog_3_method_3_code 30 = .ok (.invokevirtual 29, 3) := by decide +kernel
theorem d_Ma_send_33 : decode prog_3_method_3_code 33 = .ok (.aload_n 0, 1) := by decide +kernel
theorem d_Ma_send_34 : decode prog_3_method_3_code 34 = .ok (.dup, 1) := by decide +kernel
theorem d_Ma_send_35 : decode prog_3_method_3_code 35 = .ok (.getfield 22, 3) := by decide +kernel
theorem d_Ma_send_38 : decode prog_3_method_3_code 38 = .ok (.iconst 1, 1) := by decide +kernel
theorem d_Ma_send_39 : decode prog_3_method_3_code 39 = .ok (.iadd, 1) := by decide +kernel
theorem d_Ma_send_40 : decode prog_3_method_3_code 40 = .ok (.putfield 22, 3) := by decide +kernel
theorem d_Ma_send_43 : decode prog_3_method_3_code 43 = .ok (.return_, 1) := by decide +kernel
theorem d_Ma_takeOut_0 : decode prog_3_method_4_code 0 = .ok (.aload_n 0, 1) := by decide +kernel
theorem d_Ma_takeOut_1 : decode prog_3_method_4_code 1 = .ok (.iload_n 1, 1) := by decide +kernel
theorem d_Ma_takeOut_2 : decode prog_3_method_4_code 2 = .ok (.invokevirtual 33, 3) := by decide +kernel
theorem d_Ma_takeOut_5 : decode prog_3_method_4_code 5 = .ok (.astore_n 2, 1) := by decide +kernel
theorem d_Ma_takeOut_6 : decode prog_3_method_4_code 6 = .ok (.aload_n 2, 1) := by decide +kernel
theorem d_Ma_takeOut_7 : decode prog_3_method_4_code 7 = .ok (.ifnonnull 5, 3) := by decide +kernel
theorem d_Ma_takeOut_10 : decode prog_3_method_4_code 10 = .ok (.aconst_null, 1) := by decide +kernel
theorem d_Ma_takeOut_11 : decode prog_3_method_4_code 11 = .ok (.areturn, 1) := by decide +kernel
theorem d_Ma_takeOut_12 : decode prog_3_method_4_code 12 = .ok (.iload_n 1, 1) := by decide +kernel
theorem d_Ma_takeOut_13 : decode prog_3_method_4_code 13 = .ok (.istore_n 3, 1) := by decide +kernel
theorem d_Ma_takeOut_14 : decode prog_3_method_4_code 14 = .ok (.iload_n 3, 1) := by decide +kernel
theorem d_Ma_takeOut_15 : decode prog_3_method_4_code 15 = .ok (.iconst 1, 1) := by decide +kernel
theorem d_Ma_takeOut_16 : decode prog_3_method_4_code 16 = .ok (.iadd, 1) := by decide +kernel
theorem d_Ma_takeOut_17 : decode prog_3_method_4_code 17 = .ok (.aload_n 0, 1) := by decide +kernel
theorem d_Ma_takeOut_18 : decode prog_3_method_4_code 18 = .ok (.getfield 22, 3) := by decide +kernel
theorem d_Ma_takeOut_21 : decode prog_3_method_4_code 21 = .ok (.if_icmp .ge 31, 3) := by decide +kernel
theorem d_Ma_takeOut_24 : decode prog_3_method_4_code 24 = .ok (.iload_n 3, 1) := by decide +kernel
theorem d_Ma_takeOut_25 : decode prog_3_method_4_code 25 = .ok (.iconst 1, 1) := by decide +kernel
theorem d_Ma_takeOut_26 : decode prog_3_method_4_code 26 = .ok (.iadd, 1) := by decide +kernel
theorem d_Ma_takeOut_27 : decode prog_3_method_4_code 27 = .ok (.bipush 120, 2) := by decide +kernel
theorem d_Ma_takeOut_29 : decode prog_3_method_4_code 29 = .ok (.if_icmp .ge 23, 3) := by decide +kernel
theorem d_Ma_takeOut_32 : decode prog_3_method_4_code 32 = .ok (.aload_n 0, 1) := by decide +kernel
theorem d_Ma_takeOut_33 : decode prog_3_method_4_code 33 = .ok (.getfield 11, 3) := by decide +kernel
theorem d_Ma_takeOut_36 : decode prog_3_method_4_code 36 = .ok (.iload_n 3, 1) := by decide +kernel
theorem d_Ma_takeOut_37 : decode prog_3_method_4_code 37 = .ok (.aload_n 0, 1) := by decide +kernel
theorem d_Ma_takeOut_38 : decode prog_3_method_4_code 38 = .ok (.getfield 11, 3) := by decide +kernel
theorem d_Ma_takeOut_41 : decode prog_3_method_4_code 41 = .ok (.iload_n 3, 1) := by decide +kernel
theorem d_Ma_takeOut_42 : decode prog_3_method_4_code 42 = .ok (.iconst 1, 1) := by decide +kernel
theorem d_Ma_takeOut_43 : decode prog_3_method_4_code 43 = .ok (.iadd, 1) := by decide +kernel
theorem d_Ma_takeOut_44 : decode prog_3_method_4_code 44 = .ok (.aaload, 1) := by decide +kernel
theorem d_Ma_takeOut_45 : decode prog_3_method_4_code 45 = .ok (.aastore, 1) := by decide +kernel
theorem d_Ma_takeOut_46 : decode prog_3_method_4_code 46 = .ok (.iinc 3 1, 3) := by decide +kernel
theorem d_Ma_takeOut_49 : decode prog_3_method_4_code 49 = .ok (.goto (-35), 3) := by decide +kernel
theorem d_Ma_takeOut_52 : decode prog_3_method_4_code 52 = .ok (.aload_n 0, 1) := by decide +kernel
theorem d_Ma_takeOut_53 : decode prog_3_method_4_code 53 = .ok (.dup, 1) := by decide +kernel
theorem d_Ma_takeOut_54 : decode prog_3_method_4_code 54 = .ok (.getfield 22, 3) := by decide +kernel
theorem d_Ma_takeOut_57 : decode prog_3_method_4_code 57 = .ok (.iconst 1, 1) := by decide +kernel
theorem d_Ma_takeOut_58 : decode prog_3_method_4_code 58 = .ok (.isub, 1) := by decide +kernel
theorem d_Ma_takeOut_59 : decode prog_3_method_4_code 59 = .ok (.putfield 22, 3) := by decide +kernel
theorem d_Ma_takeOut_62 : decode prog_3_method_4_code 62 = .ok (.aload_n 0, 1) := by decide +kernel
theorem d_Ma_takeOut_63 : decode prog_3_method_4_code 63 = .ok (.getfield 11, 3) := by decide +kernel
theorem d_Ma_takeOut_66 : decode prog_3_method_4_code 66 = .ok (.aload_n 0, 1) := by decide +kernel
theorem d_Ma_takeOut_67 : decode prog_3_method_4_code 67 = .ok (.getfield 22, 3) := by decide +kernel
theorem d_Ma_takeOut_70 : decode prog_3_method_4_code 70 = .ok (.aload_n 0, 1) := by decide +kernel
theorem d_Ma_takeOut_71 : decode prog_3_method_4_code 71 = .ok (.getfield 18, 3) := by decide +kernel
theorem d_Ma_takeOut_74 : decode prog_3_method_4_code 74 = .ok (.aastore, 1) := by decide +kernel
theorem d_Ma_takeOut_75 : decode prog_3_method_4_code 75 = .ok (.aload_n 0, 1) := by decide +kernel
theorem d_Ma_takeOut_76 : decode prog_3_method_4_code 76 = .ok (.aload_n 2, 1) := by decide +kernel
theorem d_Ma_takeOut_77 : decode prog_3_method_4_code 77 = .ok (.putfield 18, 3) := by decide +kernel
theorem d_Ma_takeOut_80 : decode prog_3_method_4_code 80 = .ok (.aload_n 2, 1) := by decide +kernel
theorem d_Ma_takeOut_81 : decode prog_3_method_4_code 81 = .ok (.areturn, 1) := by decide +kernel
theorem d_Me_init_0 : decode prog_4_method_1_code 0 = .ok (.aload_n 0, 1) := by decide +kernel
theorem d_Me_init_1 : decode prog_4_method_1_code 1 = .ok (.invokespecial 3, 3) := by decide +kernel
theorem d_Me_init_4 : decode prog_4_method_1_code 4 = .ok (.aload_n 0, 1) := by decide +kernel
theorem d_Me_init_5 : decode prog_4_method_1_code 5 = .ok (.new 9, 3) := by decide +kernel
theorem d_Me_init_8 : decode prog_4_method_1_code 8 = .ok (.dup, 1) := by decide +kernel
theorem d_Me_init_9 : decode prog_4_method_1_code 9 = .ok (.invokespecial 11, 3) := by decide +kernel
theorem d_Me_init_12 : decode prog_4_method_1_code 12 = .ok (.putfield 12, 3) := by decide +kernel
theorem d_Me_init_15 : decode prog_4_method_1_code 15 = .ok (.aload_n 0, 1) := by decide +kernel
theorem d_Me_init_16 : decode prog_4_method_1_code 16 = .ok (.new 18, 3) := by decide +kernel
theorem d_Me_init_19 : decode prog_4_method_1_code 19 = .ok (.dup, 1) := by decide +kernel
theorem d_Me_init_20 : decode prog_4_method_1_code 20 = .ok (.invokespecial 20, 3) := by decide +kernel
theorem d_Me_init_23 : decode prog_4_method_1_code 23 = .ok (.putfield 21, 3) := by decide +kernel
theorem d_Me_init_26 : decode prog_4_method_1_code 26 = .ok (.return_, 1) := by decide +kernel
theorem d_Me_hasTag_0 : decode prog_4_method_2_code 0 = .ok (.aload_n 0, 1) := by decide +kernel
theorem d_Me_hasTag_1 : decode prog_4_method_2_code 1 = .ok (.getfield 25, 3) := by decide +kernel
theorem d_Me_hasTag_4 : decode prog_4_method_2_code 4 = .ok (.iconst 2, 1) := by decide +kernel
theorem d_Me_hasTag_5 : decode prog_4_method_2_code 5 = .ok (.if_icmp .eq 11, 3) := by decide +kernel
theorem d_Me_hasTag_8 : decode prog_4_method_2_code 8 = .ok (.aload_n 0, 1) := by decide +kernel
theorem d_Me_hasTag_9 : decode prog_4_method_2_code 9 = .ok (.getfield 25, 3) := by decide +kernel
theorem d_Me_hasTag_12 : decode prog_4_method_2_code 12 = .ok (.iconst 3, 1) := by decide +kernel
theorem d_Me_hasTag_13 : decode prog_4_method_2_code 13 = .ok (.if_icmp .ne 7, 3) := by decide +kernel
theorem d_Me_hasTag_16 : decode prog_4_method_2_code 16 = .ok (.iconst 1, 1) := by decide +kernel
theorem d_Me_hasTag_17 : decode prog_4_method_2_code 17 = .ok (.goto 4, 3) := by decide +kernel
theorem d_Me_hasTag_20 : decode prog_4_method_2_code 20 = .ok (.iconst 0, 1) := by decide +kernel
theorem d_Me_hasTag_21 : decode prog_4_method_2_code 21 = .ok (.ireturn, 1) := by decide +kernel
theorem d_Me_clear_0 : decode prog_4_method_3_code 0 = .ok (.aload_n 0, 1) := by decide +kernel
theorem d_Me_clear_1 : decode prog_4_method_3_code 1 = .ok (.iconst 0, 1) := by decide +kernel
theorem d_Me_clear_2 : decode prog_4_method_3_code 2 = .ok (.putfield 25, 3) := by decide +kernel
theorem d_Me_clear_5 : decode prog_4_method_3_code 5 = .ok (.aload_n 0, 1) := by decide +kernel
theorem d_Me_clear_6 : decode prog_4_method_3_code 6 = .ok (.iconst 0, 1) := by decide +kernel
theorem d_Me_clear_7 : decode prog_4_method_3_code 7 = .ok (.putfield 29, 3) := by decide +kernel
theorem d_Me_clear_10 : decode prog_4_method_3_code 10 = .ok (.aload_n 0, 1) := by decide +kernel
theorem d_Me_clear_11 : decode prog_4_method_3_code 11 = .ok (.iconst 0, 1) := by decide +kernel
theorem d_Me_clear_12 : decode prog_4_method_3_code 12 = .ok (.putfield 32, 3) := by decide +kernel
theorem d_Me_clear_15 : decode prog_4_method_3_code 15 = .ok (.aload_n 0, 1) := by decide +kernel
theorem d_Me_clear_16 : decode prog_4_method_3_code 16 = .ok (.iconst 0, 1) := by decide +kernel
theorem d_Me_clear_17 : decode prog_4_method_3_code 17 = .ok (.putfield 35, 3) := by decide +kernel
theorem d_Me_clear_20 : decode prog_4_method_3_code 20 = .ok (.aload_n 0, 1) := by decide +kernel
theorem d_Me_clear_21 : decode prog_4_method_3_code 21 = .ok (.iconst 0, 1) := by decide +kernel
theorem d_Me_clear_22 : decode prog_4_method_3_code 22 = .ok (.putfield 38, 3) := by decide +kernel
theorem d_Me_clear_25 : decode prog_4_method_3_code 25 = .ok (.aload_n 0, 1) := by decide +kernel
theorem d_Me_clear_26 : decode prog_4_method_3_code 26 = .ok (.iconst 0, 1) := by decide +kernel
theorem d_Me_clear_27 : decode prog_4_method_3_code 27 = .ok (.putfield 41, 3) := by decide +kernel
theorem d_Me_clear_30 : decode prog_4_method_3_code 30 = .ok (.return_, 1) := by decide +kernel
theorem d_Me_open_0 : decode prog_4_method_4_code 0 = .ok (.aload_n 0, 1) := by decide +kernel
theorem d_Me_open_1 : decode prog_4_method_4_code 1 = .ok (.invokevirtual 44, 3) := by decide +kernel
theorem d_Me_open_4 : decode prog_4_method_4_code 4 = .ok (.aload_n 0, 1) := by decide +kernel
theorem d_Me_open_5 : decode prog_4_method_4_code 5 = .ok (.iload_n 1, 1) := by decide +kernel
theorem d_Me_open_6 : decode prog_4_method_4_code 6 = .ok (.putfield 25, 3) := by decide +kernel
theorem d_Me_open_9 : decode prog_4_method_4_code 9 = .ok (.aload_n 0, 1) := by decide +kernel
theorem d_Me_open_10 : decode prog_4_method_4_code 10 = .ok (.aload_n 2, 1) := by decide +kernel
theorem d_Me_open_11 : decode prog_4_method_4_code 11 = .ok (.getfield 47, 3) := by decide +kernel
theorem d_Me_open_14 : decode prog_4_method_4_code 14 = .ok (.putfield 52, 3) := by decide +kernel
theorem d_Me_open_17 : decode prog_4_method_4_code 17 = .ok (.aload_n 0, 1) := by decide +kernel
theorem d_Me_open_18 : decode prog_4_method_4_code 18 = .ok (.iload_n 3, 1) := by decide +kernel
theorem d_Me_open_19 : decode prog_4_method_4_code 19 = .ok (.putfield 55, 3) := by decide +kernel
theorem d_Me_open_22 : decode prog_4_method_4_code 22 = .ok (.aload_n 0, 1) := by decide +kernel
theorem d_Me_open_23 : decode prog_4_method_4_code 23 = .ok (.getfield 12, 3) := by decide +kernel
theorem d_Me_open_26 : decode prog_4_method_4_code 26 = .ok (.aload_n 2, 1) := by decide +kernel
theorem d_Me_open_27 : decode prog_4_method_4_code 27 = .ok (.getfield 58, 3) := by decide +kernel
theorem d_Me_open_30 : decode prog_4_method_4_code 30 = .ok (.invokevirtual 59, 3) := by decide +kernel
theorem d_Me_open_33 : decode prog_4_method_4_code 33 = .ok (.return_, 1) := by decide +kernel
theorem d_Me_openAnswer_0 : decode prog_4_method_5_code 0 = .ok (.aload_n 0, 1) := by decide +kernel
theorem d_Me_openAnswer_1 : decode prog_4_method_5_code 1 = .ok (.invokevirtual 44, 3) := by decide +kernel
theorem d_Me_openAnswer_4 : decode prog_4_method_5_code 4 = .ok (.aload_n 0, 1) := by decide +kernel
theorem d_Me_openAnswer_5 : decode prog_4_method_5_code 5 = .ok (.iload_n 2, 1) := by decide +kernel
theorem d_Me_openAnswer_6 : decode prog_4_method_5_code 6 = .ok (.putfield 52, 3) := by decide +kernel
theorem d_Me_openAnswer_9 : decode prog_4_method_5_code 9 = .ok (.aload_n 0, 1) := by decide +kernel
theorem d_Me_openAnswer_10 : decode prog_4_method_5_code 10 = .ok (.aload_n 1, 1) := by decide +kernel
theorem d_Me_openAnswer_11 : decode prog_4_method_5_code 11 = .ok (.getfield 52, 3) := by decide +kernel
theorem d_Me_openAnswer_14 : decode prog_4_method_5_code 14 = .ok (.putfield 55, 3) := by decide +kernel
theorem d_Me_openAnswer_17 : decode prog_4_method_5_code 17 = .ok (.aload_n 0, 1) := by decide +kernel
theorem d_Me_openAnswer_18 : decode prog_4_method_5_code 18 = .ok (.aload_n 1, 1) := by decide +kernel
theorem d_Me_openAnswer_19 : decode prog_4_method_5_code 19 = .ok (.getfield 29, 3) := by decide +kernel
theorem d_Me_openAnswer_22 : decode prog_4_method_5_code 22 = .ok (.putfield 29, 3) := by decide +kernel
theorem d_Me_openAnswer_25 : decode prog_4_method_5_code 25 = .ok (.aload_n 0, 1) := by decide +kernel
theorem d_Me_openAnswer_26 : decode prog_4_method_5_code 26 = .ok (.aload_n 1, 1) := by decide +kernel
theorem d_Me_openAnswer_27 : decode prog_4_method_5_code 27 = .ok (.getfield 32, 3) := by decide +kernel
theorem d_Me_openAnswer_30 : decode prog_4_method_5_code 30 = .ok (.putfield 32, 3) := by decide +kernel
theorem d_Me_openAnswer_33 : decode prog_4_method_5_code 33 = .ok (.return_, 1) := by decide +kernel
theorem d_Me_copyFrom_0 : decode prog_4_method_6_code 0 = .ok (.aload_n 0, 1) := by decide +kernel
theorem d_Me_copyFrom_1 : decode prog_4_method_6_code 1 = .ok (.aload_n 1, 1) := by decide +kernel
theorem d_Me_copyFrom_2 : decode prog_4_method_6_code 2 = .ok (.getfield 25, 3) := by decide +kernel
theorem d_Me_copyFrom_5 : decode prog_4_method_6_code 5 = .ok (.putfield 25, 3) := by decide +kernel
theorem d_Me_copyFrom_8 : decode prog_4_method_6_code 8 = .ok (.aload_n 0, 1) := by decide +kernel
theorem d_Me_copyFrom_9 : decode prog_4_method_6_code 9 = .ok (.aload_n 1, 1) := by decide +kernel
theorem d_Me_copyFrom_10 : decode prog_4_method_6_code 10 = .ok (.getfield 52, 3) := by decide +kernel
theorem d_Me_copyFrom_13 : decode prog_4_method_6_code 13 = .ok (.putfield 52, 3) := by decide +kernel
theorem d_Me_copyFrom_16 : decode prog_4_method_6_code 16 = .ok (.aload_n 0, 1) := by decide +kernel
theorem d_Me_copyFrom_17 : decode prog_4_method_6_code 17 = .ok (.aload_n 1, 1) := by decide +kernel
theorem d_Me_copyFrom_18 : decode prog_4_method_6_code 18 = .ok (.getfield 55, 3) := by decide +kernel
theorem d_Me_copyFrom_21 : decode prog_4_method_6_code 21 = .ok (.putfield 55, 3) := by decide +kernel
theorem d_Me_copyFrom_24 : decode prog_4_method_6_code 24 = .ok (.aload_n 0, 1) := by decide +kernel
theorem d_Me_copyFrom_25 : decode prog_4_method_6_code 25 = .ok (.aload_n 1, 1) := by decide +kernel
theorem d_Me_copyFrom_26 : decode prog_4_method_6_code 26 = .ok (.getfield 29, 3) := by decide +kernel
theorem d_Me_copyFrom_29 : decode prog_4_method_6_code 29 = .ok (.putfield 29, 3) := by decide +kernel
theorem d_Me_copyFrom_32 : decode prog_4_method_6_code 32 = .ok (.aload_n 0, 1) := by decide +kernel
theorem d_Me_copyFrom_33 : decode prog_4_method_6_code 33 = .ok (.aload_n 1, 1) := by decide +kernel
theorem d_Me_copyFrom_34 : decode prog_4_method_6_code 34 = .ok (.getfield 32, 3) := by decide +kernel
theorem d_Me_copyFrom_37 : decode prog_4_method_6_code 37 = .ok (.putfield 32, 3) := by decide +kernel
theorem d_Me_copyFrom_40 : decode prog_4_method_6_code 40 = .ok (.aload_n 0, 1) := by decide +kernel
theorem d_Me_copyFrom_41 : decode prog_4_method_6_code 41 = .ok (.aload_n 1, 1) := by decide +kernel
theorem d_Me_copyFrom_42 : decode prog_4_method_6_code 42 = .ok (.getfield 35, 3) := by decide +kernel
theorem d_Me_copyFrom_45 : decode prog_4_method_6_code 45 = .ok (.putfield 35, 3) := by decide +kernel
theorem d_Me_copyFrom_48 : decode prog_4_method_6_code 48 = .ok (.aload_n 0, 1) := by decide +kernel
theorem d_Me_copyFrom_49 : decode prog_4_method_6_code 49 = .ok (.aload_n 1, 1) := by decide +kernel
theorem d_Me_copyFrom_50 : decode prog_4_method_6_code 50 = .ok (.getfield 38, 3) := by decide +kernel
theorem d_Me_copyFrom_53 : decode prog_4_method_6_code 53 = .ok (.putfield 38, 3) := by decide +kernel
theorem d_Me_copyFrom_56 : decode prog_4_method_6_code 56 = .ok (.aload_n 0, 1) := by decide +kernel
theorem d_Me_copyFrom_57 : decode prog_4_method_6_code 57 = .ok (.aload_n 1, 1) := by decide +kernel
theorem d_Me_copyFrom_58 : decode prog_4_method_6_code 58 = .ok (.getfield 41, 3) := by decide +kernel
theorem d_Me_copyFrom_61 : decode prog_4_method_6_code 61 = .ok (.putfield 41, 3) := by decide +kernel
theorem d_Me_copyFrom_64 : decode prog_4_method_6_code 64 = .ok (.aload_n 0, 1) := by decide +kernel
theorem d_Me_copyFrom_65 : decode prog_4_method_6_code 65 = .ok (.getfield 12, 3) := by decide +kernel
theorem d_Me_copyFrom_68 : decode prog_4_method_6_code 68 = .ok (.aload_n 1, 1) := by decide +kernel
theorem d_Me_copyFrom_69 : decode prog_4_method_6_code 69 = .ok (.getfield 12, 3) := by decide +kernel
theorem d_Me_copyFrom_72 : decode prog_4_method_6_code 72 = .ok (.invokevirtual 59, 3) := by decide +kernel
theorem d_Me_copyFrom_75 : decode prog_4_method_6_code 75 = .ok (.aload_n 0, 1) := by decide +kernel
theorem d_Me_copyFrom_76 : decode prog_4_method_6_code 76 = .ok (.getfield 21, 3) := by decide +kernel
theorem d_Me_copyFrom_79 : decode prog_4_method_6_code 79 = .ok (.aload_n 1, 1) := by decide +kernel
theorem d_Me_copyFrom_80 : decode prog_4_method_6_code 80 = .ok (.getfield 21, 3) := by decide +kernel
theorem d_Me_copyFrom_83 : decode prog_4_method_6_code 83 = .ok (.invokevirtual 63, 3) := by decide +kernel
theorem d_Me_copyFrom_86 : decode prog_4_method_6_code 86 = .ok (.return_, 1) := by decide +kernel
theorem d_No_init_0 : decode prog_5_method_1_code 0 = .ok (.aload_n 0, 1) := by decide +kernel
theorem d_No_init_1 : decode prog_5_method_1_code 1 = .ok (.invokespecial 3, 3) := by decide +kernel
theorem d_No_init_4 : decode prog_5_method_1_code 4 = .ok (.aload_n 0, 1) := by decide +kernel
theorem d_No_init_5 : decode prog_5_method_1_code 5 = .ok (.iconst 0, 1) := by decide +kernel
theorem d_No_init_6 : decode prog_5_method_1_code 6 = .ok (.putfield 9, 3) := by decide +kernel
theorem d_No_init_9 : decode prog_5_method_1_code 9 = .ok (.aload_n 0, 1) := by decide +kernel
theorem d_No_init_10 : decode prog_5_method_1_code 10 = .ok (.iconst 1, 1) := by decide +kernel
theorem d_No_init_11 : decode prog_5_method_1_code 11 = .ok (.putfield 15, 3) := by decide +kernel
theorem d_No_init_14 : decode prog_5_method_1_code 14 = .ok (.aload_n 0, 1) := by decide +kernel
theorem d_No_init_15 : decode prog_5_method_1_code 15 = .ok (.iconst 0, 1) := by decide +kernel
theorem d_No_init_16 : decode prog_5_method_1_code 16 = .ok (.putfield 18, 3) := by decide +kernel
theorem d_No_init_19 : decode prog_5_method_1_code 19 = .ok (.aload_n 0, 1) := by decide +kernel
theorem d_No_init_20 : decode prog_5_method_1_code 20 = .ok (.iconst 0, 1) := by decide +kernel
theorem d_No_init_21 : decode prog_5_method_1_code 21 = .ok (.putfield 21, 3) := by decide +kernel
theorem d_No_init_24 : decode prog_5_method_1_code 24 = .ok (.aload_n 0, 1) := by decide +kernel
theorem d_No_init_25 : decode prog_5_method_1_code 25 = .ok (.iconst 0, 1) := by decide +kernel
theorem d_No_init_26 : decode prog_5_method_1_code 26 = .ok (.putfield 24, 3) := by decide +kernel
theorem d_No_init_29 : decode prog_5_method_1_code 29 = .ok (.aload_n 0, 1) := by decide +kernel
theorem d_No_init_30 : decode prog_5_method_1_code 30 = .ok (.iconst 0, 1) := by decide +kernel
theorem d_No_init_31 : decode prog_5_method_1_code 31 = .ok (.putfield 27, 3) := by decide +kernel
theorem d_No_init_34 : decode prog_5_method_1_code 34 = .ok (.aload_n 0, 1) := by decide +kernel
theorem d_No_init_35 : decode prog_5_method_1_code 35 = .ok (.new 30, 3) := by decide +kernel
theorem d_No_init_38 : decode prog_5_method_1_code 38 = .ok (.dup, 1) := by decide +kernel
theorem d_No_init_39 : decode prog_5_method_1_code 39 = .ok (.invokespecial 32, 3) := by decide +kernel
theorem d_No_init_42 : decode prog_5_method_1_code 42 = .ok (.putfield 33, 3) := by decide +kernel
theorem d_No_init_45 : decode prog_5_method_1_code 45 = .ok (.aload_n 0, 1) := by decide +kernel
theorem d_No_init_46 : decode prog_5_method_1_code 46 = .ok (.new 37, 3) := by decide +kernel
theorem d_No_init_49 : decode prog_5_method_1_code 49 = .ok (.dup, 1) := by decide +kernel
theorem d_No_init_50 : decode prog_5_method_1_code 50 = .ok (.invokespecial 39, 3) := by decide +kernel
theorem d_No_init_53 : decode prog_5_method_1_code 53 = .ok (.putfield 40, 3) := by decide +kernel
theorem d_No_init_56 : decode prog_5_method_1_code 56 = .ok (.aload_n 0, 1) := by decide +kernel
theorem d_No_init_57 : decode prog_5_method_1_code 57 = .ok (.new 44, 3) := by decide +kernel
theorem d_No_init_60 : decode prog_5_method_1_code 60 = .ok (.dup, 1) := by decide +kernel
theorem d_No_init_61 : decode prog_5_method_1_code 61 = .ok (.invokespecial 46, 3) := by decide +kernel
theorem d_No_init_64 : decode prog_5_method_1_code 64 = .ok (.putfield 47, 3) := by decide +kernel
theorem d_No_init_67 : decode prog_5_method_1_code 67 = .ok (.aload_n 0, 1) := by decide +kernel
theorem d_No_init_68 : decode prog_5_method_1_code 68 = .ok (.new 51, 3) := by decide +kernel
theorem d_No_init_71 : decode prog_5_method_1_code 71 = .ok (.dup, 1) := by decide +kernel
theorem d_No_init_72 : decode prog_5_method_1_code 72 = .ok (.invokespecial 53, 3) := by decide +kernel
theorem d_No_init_75 : decode prog_5_method_1_code 75 = .ok (.putfield 54, 3) := by decide +kernel
theorem d_No_init_78 : decode prog_5_method_1_code 78 = .ok (.aload_n 0, 1) := by decide +kernel
theorem d_No_init_79 : decode prog_5_method_1_code 79 = .ok (.iload_n 1, 1) := by decide +kernel
theorem d_No_init_80 : decode prog_5_method_1_code 80 = .ok (.putfield 58, 3) := by decide +kernel
theorem d_No_init_83 : decode prog_5_method_1_code 83 = .ok (.return_, 1) := by decide +kernel
theorem d_No_isUp_0 : decode prog_5_method_2_code 0 = .ok (.aload_n 0, 1) := by decide +kernel
theorem d_No_isUp_1 : decode prog_5_method_2_code 1 = .ok (.getfield 9, 3) := by decide +kernel
theorem d_No_isUp_4 : decode prog_5_method_2_code 4 = .ok (.iconst 1, 1) := by decide +kernel
theorem d_No_isUp_5 : decode prog_5_method_2_code 5 = .ok (.if_icmp .ne 7, 3) := by decide +kernel
theorem d_No_isUp_8 : decode prog_5_method_2_code 8 = .ok (.iconst 1, 1) := by decide +kernel
theorem d_No_isUp_9 : decode prog_5_method_2_code 9 = .ok (.goto 4, 3) := by decide +kernel
theorem d_No_isUp_12 : decode prog_5_method_2_code 12 = .ok (.iconst 0, 1) := by decide +kernel
theorem d_No_isUp_13 : decode prog_5_method_2_code 13 = .ok (.ireturn, 1) := by decide +kernel
theorem d_No_isBusy_0 : decode prog_5_method_3_code 0 = .ok (.aload_n 0, 1) := by decide +kernel
theorem d_No_isBusy_1 : decode prog_5_method_3_code 1 = .ok (.getfield 9, 3) := by decide +kernel
theorem d_No_isBusy_4 : decode prog_5_method_3_code 4 = .ok (.iconst 1, 1) := by decide +kernel
theorem d_No_isBusy_5 : decode prog_5_method_3_code 5 = .ok (.if_icmp .ne 17, 3) := by decide +kernel
theorem d_No_isBusy_8 : decode prog_5_method_3_code 8 = .ok (.aload_n 0, 1) := by decide +kernel
theorem d_No_isBusy_9 : decode prog_5_method_3_code 9 = .ok (.getfield 54, 3) := by decide +kernel
theorem d_No_isBusy_12 : decode prog_5_method_3_code 12 = .ok (.getfield 61, 3) := by decide +kernel
theorem d_No_isBusy_15 : decode prog_5_method_3_code 15 = .ok (.ifCond .eq 7, 3) := by decide +kernel
theorem d_No_isBusy_18 : decode prog_5_method_3_code 18 = .ok (.iconst 1, 1) := by decide +kernel
theorem d_No_isBusy_19 : decode prog_5_method_3_code 19 = .ok (.goto 4, 3) := by decide +kernel
theorem d_No_isBusy_22 : decode prog_5_method_3_code 22 = .ok (.iconst 0, 1) := by decide +kernel
theorem d_No_isBusy_23 : decode prog_5_method_3_code 23 = .ok (.ireturn, 1) := by decide +kernel
theorem d_No_fall_0 : decode prog_5_method_4_code 0 = .ok (.aload_n 0, 1) := by decide +kernel
theorem d_No_fall_1 : decode prog_5_method_4_code 1 = .ok (.iconst 2, 1) := by decide +kernel
theorem d_No_fall_2 : decode prog_5_method_4_code 2 = .ok (.putfield 9, 3) := by decide +kernel
theorem d_No_fall_5 : decode prog_5_method_4_code 5 = .ok (.aload_n 0, 1) := by decide +kernel
theorem d_No_fall_6 : decode prog_5_method_4_code 6 = .ok (.iconst 0, 1) := by decide +kernel
theorem d_No_fall_7 : decode prog_5_method_4_code 7 = .ok (.putfield 24, 3) := by decide +kernel
theorem d_No_fall_10 : decode prog_5_method_4_code 10 = .ok (.aload_n 0, 1) := by decide +kernel
theorem d_No_fall_11 : decode prog_5_method_4_code 11 = .ok (.iconst 0, 1) := by decide +kernel
theorem d_No_fall_12 : decode prog_5_method_4_code 12 = .ok (.putfield 21, 3) := by decide +kernel
theorem d_No_fall_15 : decode prog_5_method_4_code 15 = .ok (.aload_n 0, 1) := by decide +kernel
theorem d_No_fall_16 : decode prog_5_method_4_code 16 = .ok (.getfield 54, 3) := by decide +kernel
theorem d_No_fall_19 : decode prog_5_method_4_code 19 = .ok (.iconst 0, 1) := by decide +kernel
theorem d_No_fall_20 : decode prog_5_method_4_code 20 = .ok (.putfield 64, 3) := by decide +kernel
theorem d_No_fall_23 : decode prog_5_method_4_code 23 = .ok (.aload_n 0, 1) := by decide +kernel
theorem d_No_fall_24 : decode prog_5_method_4_code 24 = .ok (.getfield 54, 3) := by decide +kernel
theorem d_No_fall_27 : decode prog_5_method_4_code 27 = .ok (.iconst 0, 1) := by decide +kernel
theorem d_No_fall_28 : decode prog_5_method_4_code 28 = .ok (.putfield 61, 3) := by decide +kernel
theorem d_No_fall_31 : decode prog_5_method_4_code 31 = .ok (.return_, 1) := by decide +kernel
theorem d_No_mayWrite_0 : decode prog_5_method_5_code 0 = .ok (.aload_n 0, 1) := by decide +kernel
theorem d_No_mayWrite_1 : decode prog_5_method_5_code 1 = .ok (.getfield 9, 3) := by decide +kernel
theorem d_No_mayWrite_4 : decode prog_5_method_5_code 4 = .ok (.iconst 1, 1) := by decide +kernel
theorem d_No_mayWrite_5 : decode prog_5_method_5_code 5 = .ok (.if_icmp .eq 5, 3) := by decide +kernel
theorem d_No_mayWrite_8 : decode prog_5_method_5_code 8 = .ok (.iconst 0, 1) := by decide +kernel
theorem d_No_mayWrite_9 : decode prog_5_method_5_code 9 = .ok (.ireturn, 1) := by decide +kernel
theorem d_No_mayWrite_10 : decode prog_5_method_5_code 10 = .ok (.aload_n 0, 1) := by decide +kernel
theorem d_No_mayWrite_11 : decode prog_5_method_5_code 11 = .ok (.getfield 24, 3) := by decide +kernel
theorem d_No_mayWrite_14 : decode prog_5_method_5_code 14 = .ok (.iconst 1, 1) := by decide +kernel
theorem d_No_mayWrite_15 : decode prog_5_method_5_code 15 = .ok (.if_icmp .ne 9, 3) := by decide +kernel
theorem d_No_mayWrite_18 : decode prog_5_method_5_code 18 = .ok (.aload_n 0, 1) := by decide +kernel
theorem d_No_mayWrite_19 : decode prog_5_method_5_code 19 = .ok (.invokevirtual 67, 3) := by decide +kernel
theorem d_No_mayWrite_22 : decode prog_5_method_5_code 22 = .ok (.iconst 0, 1) := by decide +kernel
theorem d_No_mayWrite_23 : decode prog_5_method_5_code 23 = .ok (.ireturn, 1) := by decide +kernel
theorem d_No_mayWrite_24 : decode prog_5_method_5_code 24 = .ok (.aload_n 0, 1) := by decide +kernel
theorem d_No_mayWrite_25 : decode prog_5_method_5_code 25 = .ok (.iconst 0, 1) := by decide +kernel
theorem d_No_mayWrite_26 : decode prog_5_method_5_code 26 = .ok (.aload_n 0, 1) := by decide +kernel
theorem d_No_mayWrite_27 : decode prog_5_method_5_code 27 = .ok (.getfield 24, 3) := by decide +kernel
theorem d_No_mayWrite_30 : decode prog_5_method_5_code 30 = .ok (.iconst 1, 1) := by decide +kernel
theorem d_No_mayWrite_31 : decode prog_5_method_5_code 31 = .ok (.isub, 1) := by decide +kernel
theorem d_No_mayWrite_32 : decode prog_5_method_5_code 32 = .ok (.invokestatic 70, 3) := by decide +kernel
theorem d_No_mayWrite_35 : decode prog_5_method_5_code 35 = .ok (.putfield 24, 3) := by decide +kernel
theorem d_No_mayWrite_38 : decode prog_5_method_5_code 38 = .ok (.aload_n 0, 1) := by decide +kernel
theorem d_No_mayWrite_39 : decode prog_5_method_5_code 39 = .ok (.dup, 1) := by decide +kernel
theorem d_No_mayWrite_40 : decode prog_5_method_5_code 40 = .ok (.getfield 27, 3) := by decide +kernel
theorem d_No_mayWrite_43 : decode prog_5_method_5_code 43 = .ok (.iconst 1, 1) := by decide +kernel
theorem d_No_mayWrite_44 : decode prog_5_method_5_code 44 = .ok (.iadd, 1) := by decide +kernel
theorem d_No_mayWrite_45 : decode prog_5_method_5_code 45 = .ok (.putfield 27, 3) := by decide +kernel
theorem d_No_mayWrite_48 : decode prog_5_method_5_code 48 = .ok (.iconst 1, 1) := by decide +kernel
theorem d_No_mayWrite_49 : decode prog_5_method_5_code 49 = .ok (.ireturn, 1) := by decide +kernel
theorem d_No_openPhase_0 : decode prog_5_method_6_code 0 = .ok (.aload_n 0, 1) := by decide +kernel
theorem d_No_openPhase_1 : decode prog_5_method_6_code 1 = .ok (.dup, 1) := by decide +kernel
theorem d_No_openPhase_2 : decode prog_5_method_6_code 2 = .ok (.getfield 21, 3) := by decide +kernel
theorem d_No_openPhase_5 : decode prog_5_method_6_code 5 = .ok (.iconst 1, 1) := by decide +kernel
theorem d_No_openPhase_6 : decode prog_5_method_6_code 6 = .ok (.iadd, 1) := by decide +kernel
theorem d_No_openPhase_7 : decode prog_5_method_6_code 7 = .ok (.putfield 21, 3) := by decide +kernel
theorem d_No_openPhase_10 : decode prog_5_method_6_code 10 = .ok (.aload_n 0, 1) := by decide +kernel
theorem d_No_openPhase_11 : decode prog_5_method_6_code 11 = .ok (.getfield 54, 3) := by decide +kernel
theorem d_No_openPhase_14 : decode prog_5_method_6_code 14 = .ok (.iload_n 1, 1) := by decide +kernel
theorem d_No_openPhase_15 : decode prog_5_method_6_code 15 = .ok (.putfield 61, 3) := by decide +kernel
theorem d_No_openPhase_18 : decode prog_5_method_6_code 18 = .ok (.aload_n 0, 1) := by decide +kernel
theorem d_No_openPhase_19 : decode prog_5_method_6_code 19 = .ok (.getfield 54, 3) := by decide +kernel
theorem d_No_openPhase_22 : decode prog_5_method_6_code 22 = .ok (.iconst 0, 1) := by decide +kernel
theorem d_No_openPhase_23 : decode prog_5_method_6_code 23 = .ok (.putfield 76, 3) := by decide +kernel
theorem d_No_openPhase_26 : decode prog_5_method_6_code 26 = .ok (.aload_n 0, 1) := by decide +kernel
theorem d_No_openPhase_27 : decode prog_5_method_6_code 27 = .ok (.getfield 54, 3) := by decide +kernel
theorem d_No_openPhase_30 : decode prog_5_method_6_code 30 = .ok (.iconst 0, 1) := by decide +kernel
theorem d_No_openPhase_31 : decode prog_5_method_6_code 31 = .ok (.putfield 79, 3) := by decide +kernel
theorem d_No_openPhase_34 : decode prog_5_method_6_code 34 = .ok (.return_, 1) := by decide +kernel
theorem d_No_raiseRound_0 : decode prog_5_method_7_code 0 = .ok (.iload_n 1, 1) := by decide +kernel
theorem d_No_raiseRound_1 : decode prog_5_method_7_code 1 = .ok (.aload_n 0, 1) := by decide +kernel
theorem d_No_raiseRound_2 : decode prog_5_method_7_code 2 = .ok (.getfield 18, 3) := by decide +kernel
theorem d_No_raiseRound_5 : decode prog_5_method_7_code 5 = .ok (.if_icmp .le 15, 3) := by decide +kernel
theorem d_No_raiseRound_8 : decode prog_5_method_7_code 8 = .ok (.aload_n 0, 1) := by decide +kernel
theorem d_No_raiseRound_9 : decode prog_5_method_7_code 9 = .ok (.invokevirtual 82, 3) := by decide +kernel
theorem d_No_raiseRound_12 : decode prog_5_method_7_code 12 = .ok (.ifCond .eq 8, 3) := by decide +kernel
theorem d_No_raiseRound_15 : decode prog_5_method_7_code 15 = .ok (.aload_n 0, 1) := by decide +kernel
theorem d_No_raiseRound_16 : decode prog_5_method_7_code 16 = .ok (.iload_n 1, 1) := by decide +kernel
theorem d_No_raiseRound_17 : decode prog_5_method_7_code 17 = .ok (.putfield 18, 3) := by decide +kernel
theorem d_No_raiseRound_20 : decode prog_5_method_7_code 20 = .ok (.return_, 1) := by decide +kernel
theorem d_No_take_0 : decode prog_5_method_8_code 0 = .ok (.iconst 0, 1) := by decide +kernel
theorem d_No_take_1 : decode prog_5_method_8_code 1 = .ok (.istore_n 3, 1) := by decide +kernel
theorem d_No_take_2 : decode prog_5_method_8_code 2 = .ok (.iload_n 3, 1) := by decide +kernel
theorem d_No_take_3 : decode prog_5_method_8_code 3 = .ok (.iconst 4, 1) := by decide +kernel
theorem d_No_take_4 : decode prog_5_method_8_code 4 = .ok (.if_icmp .ge 52, 3) := by decide +kernel
theorem d_No_take_7 : decode prog_5_method_8_code 7 = .ok (.aload_n 0, 1) := by decide +kernel
theorem d_No_take_8 : decode prog_5_method_8_code 8 = .ok (.invokevirtual 86, 3) := by decide +kernel
theorem d_No_take_11 : decode prog_5_method_8_code 11 = .ok (.ifCond .eq 45, 3) := by decide +kernel
theorem d_No_take_14 : decode prog_5_method_8_code 14 = .ok (.iload_n 2, 1) := by decide +kernel
theorem d_No_take_15 : decode prog_5_method_8_code 15 = .ok (.iload_n 3, 1) := by decide +kernel
theorem d_No_take_16 : decode prog_5_method_8_code 16 = .ok (.invokestatic 89, 3) := by decide +kernel
theorem d_No_take_19 : decode prog_5_method_8_code 19 = .ok (.ifCond .eq 31, 3) := by decide +kernel
theorem d_No_take_22 : decode prog_5_method_8_code 22 = .ok (.aload_n 0, 1) := by decide +kernel
theorem d_No_take_23 : decode prog_5_method_8_code 23 = .ok (.getfield 33, 3) := by decide +kernel
theorem d_No_take_26 : decode prog_5_method_8_code 26 = .ok (.iload_n 3, 1) := by decide +kernel
theorem d_No_take_27 : decode prog_5_method_8_code 27 = .ok (.aload_n 1, 1) := by decide +kernel
theorem d_No_take_28 : decode prog_5_method_8_code 28 = .ok (.invokevirtual 93, 3) := by decide +kernel
theorem d_No_take_31 : decode prog_5_method_8_code 31 = .ok (.ifCond .eq 19, 3) := by decide +kernel
theorem d_No_take_34 : decode prog_5_method_8_code 34 = .ok (.aload_n 0, 1) := by decide +kernel
theorem d_No_take_35 : decode prog_5_method_8_code 35 = .ok (.invokevirtual 82, 3) := by decide +kernel
theorem d_No_take_38 : decode prog_5_method_8_code 38 = .ok (.ifCond .eq 12, 3) := by decide +kernel
theorem d_No_take_41 : decode prog_5_method_8_code 41 = .ok (.aload_n 0, 1) := by decide +kernel
theorem d_No_take_42 : decode prog_5_method_8_code 42 = .ok (.getfield 33, 3) := by decide +kernel
theorem d_No_take_45 : decode prog_5_method_8_code 45 = .ok (.iload_n 3, 1) := by decide +kernel
theorem d_No_take_46 : decode prog_5_method_8_code 46 = .ok (.aload_n 1, 1) := by decide +kernel
theorem d_No_take_47 : decode prog_5_method_8_code 47 = .ok (.invokevirtual 97, 3) := by decide +kernel
theorem d_No_take_50 : decode prog_5_method_8_code 50 = .ok (.iinc 3 1, 3) := by decide +kernel
theorem d_No_take_53 : decode prog_5_method_8_code 53 = .ok (.goto (-51), 3) := by decide +kernel
theorem d_No_take_56 : decode prog_5_method_8_code 56 = .ok (.return_, 1) := by decide +kernel
theorem d_No_merge_0 : decode prog_5_method_9_code 0 = .ok (.aload_n 0, 1) := by decide +kernel
theorem d_No_merge_1 : decode prog_5_method_9_code 1 = .ok (.getfield 40, 3) := by decide +kernel
theorem d_No_merge_4 : decode prog_5_method_9_code 4 = .ok (.aload_n 1, 1) := by decide +kernel
theorem d_No_merge_5 : decode prog_5_method_9_code 5 = .ok (.invokevirtual 101, 3) := by decide +kernel
theorem d_No_merge_8 : decode prog_5_method_9_code 8 = .ok (.ifCond .eq 10, 3) := by decide +kernel
theorem d_No_merge_11 : decode prog_5_method_9_code 11 = .ok (.aload_n 0, 1) := by decide +kernel
theorem d_No_merge_12 : decode prog_5_method_9_code 12 = .ok (.invokevirtual 82, 3) := by decide +kernel
theorem d_No_merge_15 : decode prog_5_method_9_code 15 = .ok (.ifCond .ne 5, 3) := by decide +kernel
theorem d_No_merge_18 : decode prog_5_method_9_code 18 = .ok (.iconst 0, 1) := by decide +kernel
theorem d_No_merge_19 : decode prog_5_method_9_code 19 = .ok (.ireturn, 1) := by decide +kernel
theorem d_No_merge_20 : decode prog_5_method_9_code 20 = .ok (.aload_n 0, 1) := by decide +kernel
theorem d_No_merge_21 : decode prog_5_method_9_code 21 = .ok (.getfield 40, 3) := by decide +kernel
theorem d_No_merge_24 : decode prog_5_method_9_code 24 = .ok (.aload_n 1, 1) := by decide +kernel
theorem d_No_merge_25 : decode prog_5_method_9_code 25 = .ok (.invokevirtual 105, 3) := by decide +kernel
theorem d_No_merge_28 : decode prog_5_method_9_code 28 = .ok (.iconst 1, 1) := by decide +kernel
theorem d_No_merge_29 : decode prog_5_method_9_code 29 = .ok (.ireturn, 1) := by decide +kernel
theorem d_No_mark_0 : decode prog_5_method_10_code 0 = .ok (.aload_n 0, 1) := by decide +kernel
theorem d_No_mark_1 : decode prog_5_method_10_code 1 = .ok (.invokevirtual 82, 3) := by decide +kernel
theorem d_No_mark_4 : decode prog_5_method_10_code 4 = .ok (.ifCond .eq 13, 3) := by decide +kernel
theorem d_No_mark_7 : decode prog_5_method_10_code 7 = .ok (.aload_n 0, 1) := by decide +kernel
theorem d_No_mark_8 : decode prog_5_method_10_code 8 = .ok (.getfield 40, 3) := by decide +kernel
theorem d_No_mark_11 : decode prog_5_method_10_code 11 = .ok (.iload_n 1, 1) := by decide +kernel
theorem d_No_mark_12 : decode prog_5_method_10_code 12 = .ok (.iload_n 2, 1) := by decide +kernel
theorem d_No_mark_13 : decode prog_5_method_10_code 13 = .ok (.iload_n 3, 1) := by decide +kernel
theorem d_No_mark_14 : decode prog_5_method_10_code 14 = .ok (.invokevirtual 109, 3) := by decide +kernel
theorem d_No_mark_17 : decode prog_5_method_10_code 17 = .ok (.return_, 1) := by decide +kernel
theorem d_Se_init_0 : decode prog_6_method_1_code 0 = .ok (.aload_n 0, 1) := by decide +kernel
theorem d_Se_init_1 : decode prog_6_method_1_code 1 = .ok (.invokespecial 3, 3) := by decide +kernel
theorem d_Se_init_4 : decode prog_6_method_1_code 4 = .ok (.aload_n 0, 1) := by decide +kernel
theorem d_Se_init_5 : decode prog_6_method_1_code 5 = .ok (.bipush 16, 2) := by decide +kernel
theorem d_Se_init_7 : decode prog_6_method_1_code 7 = .ok (.newarray .int, 2) := by decide +kernel
theorem d_Se_init_9 : decode prog_6_method_1_code 9 = .ok (.putfield 9, 3) := by decide +kernel
theorem d_Se_init_12 : decode prog_6_method_1_code 12 = .ok (.aload_n 0, 1) := by decide +kernel
theorem d_Se_init_13 : decode prog_6_method_1_code 13 = .ok (.bipush 16, 2) := by decide +kernel
theorem d_Se_init_15 : decode prog_6_method_1_code 15 = .ok (.newarray .int, 2) := by decide +kernel
theorem d_Se_init_17 : decode prog_6_method_1_code 17 = .ok (.putfield 15, 3) := by decide +kernel
theorem d_Se_init_20 : decode prog_6_method_1_code 20 = .ok (.return_, 1) := by decide +kernel
theorem d_Se_stateOf_0 : decode prog_6_method_2_code 0 = .ok (.iload_n 1, 1) := by decide +kernel
theorem d_Se_stateOf_1 : decode prog_6_method_2_code 1 = .ok (.invokestatic 18, 3) := by decide +kernel
theorem d_Se_stateOf_4 : decode prog_6_method_2_code 4 = .ok (.ifCond .eq 12, 3) := by decide +kernel
theorem d_Se_stateOf_7 : decode prog_6_method_2_code 7 = .ok (.aload_n 0, 1) := by decide +kernel
theorem d_Se_stateOf_8 : decode prog_6_method_2_code 8 = .ok (.getfield 9, 3) := by decide +kernel
theorem d_Se_stateOf_11 : decode prog_6_method_2_code 11 = .ok (.iload_n 1, 1) := by decide +kernel
theorem d_Se_stateOf_12 : decode prog_6_method_2_code 12 = .ok (.iaload, 1) := by decide +kernel
theorem d_Se_stateOf_13 : decode prog_6_method_2_code 13 = .ok (.goto 4, 3) := by decide +kernel
theorem d_Se_stateOf_16 : decode prog_6_method_2_code 16 = .ok (.iconst 0, 1) := by decide +kernel
theorem d_Se_stateOf_17 : decode prog_6_method_2_code 17 = .ok (.ireturn, 1) := by decide +kernel
theorem d_Se_configurationOf_0 : decode prog_6_method_3_code 0 = .ok (.iload_n 1, 1) := by decide +kernel
theorem d_Se_configurationOf_1 : decode prog_6_method_3_code 1 = .ok (.invokestatic 18, 3) := by decide +kernel
theorem d_Se_configurationOf_4 : decode prog_6_method_3_code 4 = .ok (.ifCond .eq 12, 3) := by decide +kernel
theorem d_Se_configurationOf_7 : decode prog_6_method_3_code 7 = .ok (.aload_n 0, 1) := by decide +kernel
theorem d_Se_configurationOf_8 : decode prog_6_method_3_code 8 = .ok (.getfield 15, 3) := by decide +kernel
theorem d_Se_configurationOf_11 : decode prog_6_method_3_code 11 = .ok (.iload_n 1, 1) := by decide +kernel
theorem d_Se_configurationOf_12 : decode prog_6_method_3_code 12 = .ok (.iaload, 1) := by decide +kernel
theorem d_Se_configurationOf_13 : decode prog_6_method_3_code 13 = .ok (.goto 4, 3) := by decide +kernel
theorem d_Se_configurationOf_16 : decode prog_6_method_3_code 16 = .ok (.iconst 0, 1) := by decide +kernel
theorem d_Se_configurationOf_17 : decode prog_6_method_3_code 17 = .ok (.ireturn, 1) := by decide +kernel
theorem d_Se_put_0 : decode prog_6_method_4_code 0 = .ok (.iload_n 1, 1) := by decide +kernel
theorem d_Se_put_1 : decode prog_6_method_4_code 1 = .ok (.invokestatic 18, 3) := by decide +kernel
theorem d_Se_put_4 : decode prog_6_method_4_code 4 = .ok (.ifCond .eq 17, 3) := by decide +kernel
theorem d_Se_put_7 : decode prog_6_method_4_code 7 = .ok (.aload_n 0, 1) := by decide +kernel
theorem d_Se_put_8 : decode prog_6_method_4_code 8 = .ok (.getfield 9, 3) := by decide +kernel
theorem d_Se_put_11 : decode prog_6_method_4_code 11 = .ok (.iload_n 1, 1) := by decide +kernel
theorem d_Se_put_12 : decode prog_6_method_4_code 12 = .ok (.iload_n 2, 1) := by decide +kernel
theorem d_Se_put_13 : decode prog_6_method_4_code 13 = .ok (.iastore, 1) := by decide +kernel
theorem d_Se_put_14 : decode prog_6_method_4_code 14 = .ok (.aload_n 0, 1) := by decide +kernel
theorem d_Se_put_15 : decode prog_6_method_4_code 15 = .ok (.getfield 15, 3) := by decide +kernel
theorem d_Se_put_18 : decode prog_6_method_4_code 18 = .ok (.iload_n 1, 1) := by decide +kernel
theorem d_Se_put_19 : decode prog_6_method_4_code 19 = .ok (.iload_n 3, 1) := by decide +kernel
theorem d_Se_put_20 : decode prog_6_method_4_code 20 = .ok (.iastore, 1) := by decide +kernel
theorem d_Se_put_21 : decode prog_6_method_4_code 21 = .ok (.return_, 1) := by decide +kernel
theorem d_Se_having_0 : decode prog_6_method_5_code 0 = .ok (.iconst 0, 1) := by decide +kernel
theorem d_Se_having_1 : decode prog_6_method_5_code 1 = .ok (.istore_n 2, 1) := by decide +kernel
theorem d_Se_having_2 : decode prog_6_method_5_code 2 = .ok (.iconst 0, 1) := by decide +kernel
theorem d_Se_having_3 : decode prog_6_method_5_code 3 = .ok (.istore_n 3, 1) := by decide +kernel
theorem d_Se_having_4 : decode prog_6_method_5_code 4 = .ok (.iload_n 3, 1) := by decide +kernel
theorem d_Se_having_5 : decode prog_6_method_5_code 5 = .ok (.bipush 16, 2) := by decide +kernel
theorem d_Se_having_7 : decode prog_6_method_5_code 7 = .ok (.if_icmp .ge 25, 3) := by decide +kernel
theorem d_Se_having_10 : decode prog_6_method_5_code 10 = .ok (.aload_n 0, 1) := by decide +kernel
theorem d_Se_having_11 : decode prog_6_method_5_code 11 = .ok (.getfield 9, 3) := by decide +kernel
theorem d_Se_having_14 : decode prog_6_method_5_code 14 = .ok (.iload_n 3, 1) := by decide +kernel
theorem d_Se_having_15 : decode prog_6_method_5_code 15 = .ok (.iaload, 1) := by decide +kernel
theorem d_Se_having_16 : decode prog_6_method_5_code 16 = .ok (.iload_n 1, 1) := by decide +kernel
theorem d_Se_having_17 : decode prog_6_method_5_code 17 = .ok (.if_icmp .ne 9, 3) := by decide +kernel
theorem d_Se_having_20 : decode prog_6_method_5_code 20 = .ok (.iload_n 2, 1) := by decide +kernel
theorem d_Se_having_21 : decode prog_6_method_5_code 21 = .ok (.iconst 1, 1) := by decide +kernel
theorem d_Se_having_22 : decode prog_6_method_5_code 22 = .ok (.iload_n 3, 1) := by decide +kernel
theorem d_Se_having_23 : decode prog_6_method_5_code 23 = .ok (.ishl, 1) := by decide +kernel
theorem d_Se_having_24 : decode prog_6_method_5_code 24 = .ok (.ior, 1) := by decide +kernel
theorem d_Se_having_25 : decode prog_6_method_5_code 25 = .ok (.istore_n 2, 1) := by decide +kernel
theorem d_Se_having_26 : decode prog_6_method_5_code 26 = .ok (.iinc 3 1, 3) := by decide +kernel
theorem d_Se_having_29 : decode prog_6_method_5_code 29 = .ok (.goto (-25), 3) := by decide +kernel
theorem d_Se_having_32 : decode prog_6_method_5_code 32 = .ok (.iload_n 2, 1) := by decide +kernel
theorem d_Se_having_33 : decode prog_6_method_5_code 33 = .ok (.ireturn, 1) := by decide +kernel
theorem d_Se_membersOfAll_0 : decode prog_6_method_6_code 0 = .ok (.iconst 0, 1) := by decide +kernel
theorem d_Se_membersOfAll_1 : decode prog_6_method_6_code 1 = .ok (.istore_n 2, 1) := by decide +kernel
theorem d_Se_membersOfAll_2 : decode prog_6_method_6_code 2 = .ok (.iconst 0, 1) := by decide +kernel
theorem d_Se_membersOfAll_3 : decode prog_6_method_6_code 3 = .ok (.istore_n 3, 1) := by decide +kernel
theorem d_Se_membersOfAll_4 : decode prog_6_method_6_code 4 = .ok (.iload_n 3, 1) := by decide +kernel
theorem d_Se_membersOfAll_5 : decode prog_6_method_6_code 5 = .ok (.bipush 16, 2) := by decide +kernel
theorem d_Se_membersOfAll_7 : decode prog_6_method_6_code 7 = .ok (.if_icmp .ge 29, 3) := by decide +kernel
theorem d_Se_membersOfAll_10 : decode prog_6_method_6_code 10 = .ok (.iload_n 1, 1) := by decide +kernel
theorem d_Se_membersOfAll_11 : decode prog_6_method_6_code 11 = .ok (.iload_n 3, 1) := by decide +kernel
theorem d_Se_membersOfAll_12 : decode prog_6_method_6_code 12 = .ok (.invokestatic 22, 3) := by decide +kernel
theorem d_Se_membersOfAll_15 : decode prog_6_method_6_code 15 = .ok (.ifCond .eq 15, 3) := by decide +kernel
theorem d_Se_membersOfAll_18 : decode prog_6_method_6_code 18 = .ok (.iload_n 2, 1) := by decide +kernel
theorem d_Se_membersOfAll_19 : decode prog_6_method_6_code 19 = .ok (.aload_n 0, 1) := by decide +kernel
theorem d_Se_membersOfAll_20 : decode prog_6_method_6_code 20 = .ok (.getfield 15, 3) := by decide +kernel
theorem d_Se_membersOfAll_23 : decode prog_6_method_6_code 23 = .ok (.iload_n 3, 1) := by decide +kernel
theorem d_Se_membersOfAll_24 : decode prog_6_method_6_code 24 = .ok (.iaload, 1) := by decide +kernel
theorem d_Se_membersOfAll_25 : decode prog_6_method_6_code 25 = .ok (.invokestatic 26, 3) := by decide +kernel
theorem d_Se_membersOfAll_28 : decode prog_6_method_6_code 28 = .ok (.ior, 1) := by decide +kernel
theorem d_Se_membersOfAll_29 : decode prog_6_method_6_code 29 = .ok (.istore_n 2, 1) := by decide +kernel
theorem d_Se_membersOfAll_30 : decode prog_6_method_6_code 30 = .ok (.iinc 3 1, 3) := by decide +kernel
theorem d_Se_membersOfAll_33 : decode prog_6_method_6_code 33 = .ok (.goto (-29), 3) := by decide +kernel
theorem d_Se_membersOfAll_36 : decode prog_6_method_6_code 36 = .ok (.iload_n 2, 1) := by decide +kernel
theorem d_Se_membersOfAll_37 : decode prog_6_method_6_code 37 = .ok (.ireturn, 1) := by decide +kernel
theorem d_Se_copyFrom_0 : decode prog_6_method_7_code 0 = .ok (.aload_n 1, 1) := by decide +kernel
theorem d_Se_copyFrom_1 : decode prog_6_method_7_code 1 = .ok (.getfield 9, 3) := by decide +kernel
theorem d_Se_copyFrom_4 : decode prog_6_method_7_code 4 = .ok (.iconst 0, 1) := by decide +kernel
theorem d_Se_copyFrom_5 : decode prog_6_method_7_code 5 = .ok (.aload_n 0, 1) := by decide +kernel
theorem d_Se_copyFrom_6 : decode prog_6_method_7_code 6 = .ok (.getfield 9, 3) := by decide +kernel
theorem d_Se_copyFrom_9 : decode prog_6_method_7_code 9 = .ok (.iconst 0, 1) := by decide +kernel
theorem d_Se_copyFrom_10 : decode prog_6_method_7_code 10 = .ok (.bipush 16, 2) := by decide +kernel
theorem d_Se_copyFrom_12 : decode prog_6_method_7_code 12 = .ok (.invokestatic 30, 3) := by decide +kernel
theorem d_Se_copyFrom_15 : decode prog_6_method_7_code 15 = .ok (.aload_n 1, 1) := by decide +kernel
theorem d_Se_copyFrom_16 : decode prog_6_method_7_code 16 = .ok (.getfield 15, 3) := by decide +kernel
theorem d_Se_copyFrom_19 : decode prog_6_method_7_code 19 = .ok (.iconst 0, 1) := by decide +kernel
theorem d_Se_copyFrom_20 : decode prog_6_method_7_code 20 = .ok (.aload_n 0, 1) := by decide +kernel
theorem d_Se_copyFrom_21 : decode prog_6_method_7_code 21 = .ok (.getfield 15, 3) := by decide +kernel
theorem d_Se_copyFrom_24 : decode prog_6_method_7_code 24 = .ok (.iconst 0, 1) := by decide +kernel
theorem d_Se_copyFrom_25 : decode prog_6_method_7_code 25 = .ok (.bipush 16, 2) := by decide +kernel
theorem d_Se_copyFrom_27 : decode prog_6_method_7_code 27 = .ok (.invokestatic 30, 3) := by decide +kernel
theorem d_Se_copyFrom_30 : decode prog_6_method_7_code 30 = .ok (.return_, 1) := by decide +kernel
theorem d_Se_isBehind_0 : decode prog_6_method_8_code 0 = .ok (.iconst 0, 1) := by decide +kernel
theorem d_Se_isBehind_1 : decode prog_6_method_8_code 1 = .ok (.istore_n 2, 1) := by decide +kernel
theorem d_Se_isBehind_2 : decode prog_6_method_8_code 2 = .ok (.iload_n 2, 1) := by decide +kernel
theorem d_Se_isBehind_3 : decode prog_6_method_8_code 3 = .ok (.bipush 16, 2) := by decide +kernel
theorem d_Se_isBehind_5 : decode prog_6_method_8_code 5 = .ok (.if_icmp .ge 26, 3) := by decide +kernel
theorem d_Se_isBehind_8 : decode prog_6_method_8_code 8 = .ok (.aload_n 1, 1) := by decide +kernel
theorem d_Se_isBehind_9 : decode prog_6_method_8_code 9 = .ok (.getfield 9, 3) := by decide +kernel
theorem d_Se_isBehind_12 : decode prog_6_method_8_code 12 = .ok (.iload_n 2, 1) := by decide +kernel
theorem d_Se_isBehind_13 : decode prog_6_method_8_code 13 = .ok (.iaload, 1) := by decide +kernel
theorem d_Se_isBehind_14 : decode prog_6_method_8_code 14 = .ok (.aload_n 0, 1) := by decide +kernel
theorem d_Se_isBehind_15 : decode prog_6_method_8_code 15 = .ok (.getfield 9, 3) := by decide +kernel
theorem d_Se_isBehind_18 : decode prog_6_method_8_code 18 = .ok (.iload_n 2, 1) := by decide +kernel
theorem d_Se_isBehind_19 : decode prog_6_method_8_code 19 = .ok (.iaload, 1) := by decide +kernel
theorem d_Se_isBehind_20 : decode prog_6_method_8_code 20 = .ok (.if_icmp .le 5, 3) := by decide +kernel
theorem d_Se_isBehind_23 : decode prog_6_method_8_code 23 = .ok (.iconst 1, 1) := by decide +kernel
theorem d_Se_isBehind_24 : decode prog_6_method_8_code 24 = .ok (.ireturn, 1) := by decide +kernel
theorem d_Se_isBehind_25 : decode prog_6_method_8_code 25 = .ok (.iinc 2 1, 3) := by decide +kernel
theorem d_Se_isBehind_28 : decode prog_6_method_8_code 28 = .ok (.goto (-26), 3) := by decide +kernel
theorem d_Se_isBehind_31 : decode prog_6_method_8_code 31 = .ok (.iconst 0, 1) := by decide +kernel
theorem d_Se_isBehind_32 : decode prog_6_method_8_code 32 = .ok (.ireturn, 1) := by decide +kernel
theorem d_Se_takeGreater_0 : decode prog_6_method_9_code 0 = .ok (.iconst 0, 1) := by decide +kernel
theorem d_Se_takeGreater_1 : decode prog_6_method_9_code 1 = .ok (.istore_n 2, 1) := by decide +kernel
theorem d_Se_takeGreater_2 : decode prog_6_method_9_code 2 = .ok (.iload_n 2, 1) := by decide +kernel
theorem d_Se_takeGreater_3 : decode prog_6_method_9_code 3 = .ok (.bipush 16, 2) := by decide +kernel
theorem d_Se_takeGreater_5 : decode prog_6_method_9_code 5 = .ok (.if_icmp .ge 48, 3) := by decide +kernel
theorem d_Se_takeGreater_8 : decode prog_6_method_9_code 8 = .ok (.aload_n 1, 1) := by decide +kernel
theorem d_Se_takeGreater_9 : decode prog_6_method_9_code 9 = .ok (.getfield 9, 3) := by decide +kernel
theorem d_Se_takeGreater_12 : decode prog_6_method_9_code 12 = .ok (.iload_n 2, 1) := by decide +kernel
theorem d_Se_takeGreater_13 : decode prog_6_method_9_code 13 = .ok (.iaload, 1) := by decide +kernel
theorem d_Se_takeGreater_14 : decode prog_6_method_9_code 14 = .ok (.aload_n 0, 1) := by decide +kernel
theorem d_Se_takeGreater_15 : decode prog_6_method_9_code 15 = .ok (.getfield 9, 3) := by decide +kernel
theorem d_Se_takeGreater_18 : decode prog_6_method_9_code 18 = .ok (.iload_n 2, 1) := by decide +kernel
theorem d_Se_takeGreater_19 : decode prog_6_method_9_code 19 = .ok (.iaload, 1) := by decide +kernel
theorem d_Se_takeGreater_20 : decode prog_6_method_9_code 20 = .ok (.if_icmp .le 27, 3) := by decide +kernel
theorem d_Se_takeGreater_23 : decode prog_6_method_9_code 23 = .ok (.aload_n 0, 1) := by decide +kernel
theorem d_Se_takeGreater_24 : decode prog_6_method_9_code 24 = .ok (.getfield 9, 3) := by decide +kernel
theorem d_Se_takeGreater_27 : decode prog_6_method_9_code 27 = .ok (.iload_n 2, 1) := by decide +kernel
theorem d_Se_takeGreater_28 : decode prog_6_method_9_code 28 = .ok (.aload_n 1, 1) := by decide +kernel
theorem d_Se_takeGreater_29 : decode prog_6_method_9_code 29 = .ok (.getfield 9, 3) := by decide +kernel
theorem d_Se_takeGreater_32 : decode prog_6_method_9_code 32 = .ok (.iload_n 2, 1) := by decide +kernel
theorem d_Se_takeGreater_33 : decode prog_6_method_9_code 33 = .ok (.iaload, 1) := by decide +kernel
theorem d_Se_takeGreater_34 : decode prog_6_method_9_code 34 = .ok (.iastore, 1) := by decide +kernel
theorem d_Se_takeGreater_35 : decode prog_6_method_9_code 35 = .ok (.aload_n 0, 1) := by decide +kernel
theorem d_Se_takeGreater_36 : decode prog_6_method_9_code 36 = .ok (.getfield 15, 3) := by decide +kernel
theorem d_Se_takeGreater_39 : decode prog_6_method_9_code 39 = .ok (.iload_n 2, 1) := by decide +kernel
theorem d_Se_takeGreater_40 : decode prog_6_method_9_code 40 = .ok (.aload_n 1, 1) := by decide +kernel
theorem d_Se_takeGreater_41 : decode prog_6_method_9_code 41 = .ok (.getfield 15, 3) := by decide +kernel
theorem d_Se_takeGreater_44 : decode prog_6_method_9_code 44 = .ok (.iload_n 2, 1) := by decide +kernel
theorem d_Se_takeGreater_45 : decode prog_6_method_9_code 45 = .ok (.iaload, 1) := by decide +kernel
theorem d_Se_takeGreater_46 : decode prog_6_method_9_code 46 = .ok (.iastore, 1) := by decide +kernel
theorem d_Se_takeGreater_47 : decode prog_6_method_9_code 47 = .ok (.iinc 2 1, 3) := by decide +kernel
theorem d_Se_takeGreater_50 : decode prog_6_method_9_code 50 = .ok (.goto (-48), 3) := by decide +kernel
theorem d_Se_takeGreater_53 : decode prog_6_method_9_code 53 = .ok (.return_, 1) := by decide +kernel
theorem d_Ta_init_0 : decode prog_7_method_1_code 0 = .ok (.aload_n 0, 1) := by decide +kernel
theorem d_Ta_init_1 : decode prog_7_method_1_code 1 = .ok (.invokespecial 3, 3) := by decide +kernel
theorem d_Ta_init_4 : decode prog_7_method_1_code 4 = .ok (.aload_n 0, 1) := by decide +kernel
theorem d_Ta_init_5 : decode prog_7_method_1_code 5 = .ok (.new 9, 3) := by decide +kernel
theorem d_Ta_init_8 : decode prog_7_method_1_code 8 = .ok (.dup, 1) := by decide +kernel
theorem d_Ta_init_9 : decode prog_7_method_1_code 9 = .ok (.invokespecial 11, 3) := by decide +kernel
theorem d_Ta_init_12 : decode prog_7_method_1_code 12 = .ok (.putfield 12, 3) := by decide +kernel
theorem d_Ta_init_15 : decode prog_7_method_1_code 15 = .ok (.return_, 1) := by decide +kernel
theorem d_Ta_isOfObject_0 : decode prog_7_method_2_code 0 = .ok (.aload_n 0, 1) := by decide +kernel
theorem d_Ta_isOfObject_1 : decode prog_7_method_2_code 1 = .ok (.getfield 18, 3) := by decide +kernel
theorem d_Ta_isOfObject_4 : decode prog_7_method_2_code 4 = .ok (.iconst 1, 1) := by decide +kernel
theorem d_Ta_isOfObject_5 : decode prog_7_method_2_code 5 = .ok (.if_icmp .eq 11, 3) := by decide +kernel
theorem d_Ta_isOfObject_8 : decode prog_7_method_2_code 8 = .ok (.aload_n 0, 1) := by decide +kernel
theorem d_Ta_isOfObject_9 : decode prog_7_method_2_code 9 = .ok (.getfield 18, 3) := by decide +kernel
theorem d_Ta_isOfObject_12 : decode prog_7_method_2_code 12 = .ok (.iconst 2, 1) := by decide +kernel
theorem d_Ta_isOfObject_13 : decode prog_7_method_2_code 13 = .ok (.if_icmp .ne 7, 3) := by decide +kernel
theorem d_Ta_isOfObject_16 : decode prog_7_method_2_code 16 = .ok (.iconst 1, 1) := by decide +kernel
theorem d_Ta_isOfObject_17 : decode prog_7_method_2_code 17 = .ok (.goto 4, 3) := by decide +kernel
theorem d_Ta_isOfObject_20 : decode prog_7_method_2_code 20 = .ok (.iconst 0, 1) := by decide +kernel
theorem d_Ta_isOfObject_21 : decode prog_7_method_2_code 21 = .ok (.ireturn, 1) := by decide +kernel
theorem d_Ta_open_0 : decode prog_7_method_3_code 0 = .ok (.aload_n 0, 1) := by decide +kernel
theorem d_Ta_open_1 : decode prog_7_method_3_code 1 = .ok (.iload_n 1, 1) := by decide +kernel
theorem d_Ta_open_2 : decode prog_7_method_3_code 2 = .ok (.putfield 22, 3) := by decide +kernel
theorem d_Ta_open_5 : decode prog_7_method_3_code 5 = .ok (.aload_n 0, 1) := by decide +kernel
theorem d_Ta_open_6 : decode prog_7_method_3_code 6 = .ok (.iload_n 2, 1) := by decide +kernel
theorem d_Ta_open_7 : decode prog_7_method_3_code 7 = .ok (.putfield 18, 3) := by decide +kernel
theorem d_Ta_open_10 : decode prog_7_method_3_code 10 = .ok (.aload_n 0, 1) := by decide +kernel
theorem d_Ta_open_11 : decode prog_7_method_3_code 11 = .ok (.iload_n 3, 1) := by decide +kernel
theorem d_Ta_open_12 : decode prog_7_method_3_code 12 = .ok (.putfield 25, 3) := by decide +kernel
theorem d_Ta_open_15 : decode prog_7_method_3_code 15 = .ok (.aload_n 0, 1) := by decide +kernel
theorem d_Ta_open_16 : decode prog_7_method_3_code 16 = .ok (.iconst 0, 1) := by decide +kernel
theorem d_Ta_open_17 : decode prog_7_method_3_code 17 = .ok (.putfield 28, 3) := by decide +kernel
theorem d_Ta_open_20 : decode prog_7_method_3_code 20 = .ok (.aload_n 0, 1) := by decide +kernel
theorem d_Ta_open_21 : decode prog_7_method_3_code 21 = .ok (.iconst 0, 1) := by decide +kernel
theorem d_Ta_open_22 : decode prog_7_method_3_code 22 = .ok (.putfield 31, 3) := by decide +kernel
theorem d_Ta_open_25 : decode prog_7_method_3_code 25 = .ok (.aload_n 0, 1) := by decide +kernel
theorem d_Ta_open_26 : decode prog_7_method_3_code 26 = .ok (.iconst 0, 1) := by decide +kernel
theorem d_Ta_open_27 : decode prog_7_method_3_code 27 = .ok (.putfield 34, 3) := by decide +kernel
theorem d_Ta_open_30 : decode prog_7_method_3_code 30 = .ok (.aload_n 0, 1) := by decide +kernel
theorem d_Ta_open_31 : decode prog_7_method_3_code 31 = .ok (.iconst 0, 1) := by decide +kernel
theorem d_Ta_open_32 : decode prog_7_method_3_code 32 = .ok (.putfield 37, 3) := by decide +kernel
theorem d_Ta_open_35 : decode prog_7_method_3_code 35 = .ok (.aload_n 0, 1) := by decide +kernel
theorem d_Ta_open_36 : decode prog_7_method_3_code 36 = .ok (.iconst 0, 1) := by decide +kernel
theorem d_Ta_open_37 : decode prog_7_method_3_code 37 = .ok (.putfield 40, 3) := by decide +kernel
theorem d_Ta_open_40 : decode prog_7_method_3_code 40 = .ok (.aload_n 0, 1) := by decide +kernel
theorem d_Ta_open_41 : decode prog_7_method_3_code 41 = .ok (.iconst 0, 1) := by decide +kernel
theorem d_Ta_open_42 : decode prog_7_method_3_code 42 = .ok (.putfield 43, 3) := by decide +kernel
theorem d_Ta_open_45 : decode prog_7_method_3_code 45 = .ok (.return_, 1) := by decide +kernel
theorem d_Vo_init_0 : decode prog_8_method_1_code 0 = .ok (.aload_n 0, 1) := by decide +kernel
theorem d_Vo_init_1 : decode prog_8_method_1_code 1 = .ok (.invokespecial 3, 3) := by decide +kernel
theorem d_Vo_init_4 : decode prog_8_method_1_code 4 = .ok (.aload_n 0, 1) := by decide +kernel
theorem d_Vo_init_5 : decode prog_8_method_1_code 5 = .ok (.bipush 16, 2) := by decide +kernel
theorem d_Vo_init_7 : decode prog_8_method_1_code 7 = .ok (.newarray .int, 2) := by decide +kernel
theorem d_Vo_init_9 : decode prog_8_method_1_code 9 = .ok (.putfield 9, 3) := by decide +kernel
theorem d_Vo_init_12 : decode prog_8_method_1_code 12 = .ok (.aload_n 0, 1) := by decide +kernel
theorem d_Vo_init_13 : decode prog_8_method_1_code 13 = .ok (.bipush 16, 2) := by decide +kernel
theorem d_Vo_init_15 : decode prog_8_method_1_code 15 = .ok (.newarray .int, 2) := by decide +kernel
theorem d_Vo_init_17 : decode prog_8_method_1_code 17 = .ok (.putfield 15, 3) := by decide +kernel
theorem d_Vo_init_20 : decode prog_8_method_1_code 20 = .ok (.aload_n 0, 1) := by decide +kernel
theorem d_Vo_init_21 : decode prog_8_method_1_code 21 = .ok (.bipush 16, 2) := by decide +kernel
theorem d_Vo_init_23 : decode prog_8_method_1_code 23 = .ok (.newarray .int, 2) := by decide +kernel
theorem d_Vo_init_25 : decode prog_8_method_1_code 25 = .ok (.putfield 18, 3) := by decide +kernel
theorem d_Vo_init_28 : decode prog_8_method_1_code 28 = .ok (.return_, 1) := by decide +kernel
theorem d_Vo_promisedAt_0 : decode prog_8_method_2_code 0 = .ok (.iload_n 1, 1) := by decide +kernel
theorem d_Vo_promisedAt_1 : decode prog_8_method_2_code 1 = .ok (.invokestatic 21, 3) := by decide +kernel
theorem d_Vo_promisedAt_4 : decode prog_8_method_2_code 4 = .ok (.ifCond .eq 12, 3) := by decide +kernel
theorem d_Vo_promisedAt_7 : decode prog_8_method_2_code 7 = .ok (.aload_n 0, 1) := by decide +kernel
theorem d_Vo_promisedAt_8 : decode prog_8_method_2_code 8 = .ok (.getfield 9, 3) := by decide +kernel
theorem d_Vo_promisedAt_11 : decode prog_8_method_2_code 11 = .ok (.iload_n 1, 1) := by decide +kernel
theorem d_Vo_promisedAt_12 : decode prog_8_method_2_code 12 = .ok (.iaload, 1) := by decide +kernel
theorem d_Vo_promisedAt_13 : decode prog_8_method_2_code 13 = .ok (.goto 4, 3) := by decide +kernel
theorem d_Vo_promisedAt_16 : decode prog_8_method_2_code 16 = .ok (.iconst 0, 1) := by decide +kernel
theorem d_Vo_promisedAt_17 : decode prog_8_method_2_code 17 = .ok (.ireturn, 1) := by decide +kernel
theorem d_Vo_acceptedAt_0 : decode prog_8_method_3_code 0 = .ok (.iload_n 1, 1) := by decide +kernel
theorem d_Vo_acceptedAt_1 : decode prog_8_method_3_code 1 = .ok (.invokestatic 21, 3) := by decide +kernel
theorem d_Vo_acceptedAt_4 : decode prog_8_method_3_code 4 = .ok (.ifCond .eq 12, 3) := by decide +kernel
theorem d_Vo_acceptedAt_7 : decode prog_8_method_3_code 7 = .ok (.aload_n 0, 1) := by decide +kernel
theorem d_Vo_acceptedAt_8 : decode prog_8_method_3_code 8 = .ok (.getfield 15, 3) := by decide +kernel
theorem d_Vo_acceptedAt_11 : decode prog_8_method_3_code 11 = .ok (.iload_n 1, 1) := by decide +kernel
theorem d_Vo_acceptedAt_12 : decode prog_8_method_3_code 12 = .ok (.iaload, 1) := by decide +kernel
theorem d_Vo_acceptedAt_13 : decode prog_8_method_3_code 13 = .ok (.goto 4, 3) := by decide +kernel
theorem d_Vo_acceptedAt_16 : decode prog_8_method_3_code 16 = .ok (.iconst 0, 1) := by decide +kernel
theorem d_Vo_acceptedAt_17 : decode prog_8_method_3_code 17 = .ok (.ireturn, 1) := by decide +kernel
theorem d_Vo_configurationAt_0 : decode prog_8_method_4_code 0 = .ok (.iload_n 1, 1) := by decide +kernel
theorem d_Vo_configurationAt_1 : decode prog_8_method_4_code 1 = .ok (.invokestatic 21, 3) := by decide +kernel
theorem d_Vo_configurationAt_4 : decode prog_8_method_4_code 4 = .ok (.ifCond .eq 12, 3) := by decide +kernel
theorem d_Vo_configurationAt_7 : decode prog_8_method_4_code 7 = .ok (.aload_n 0, 1) := by decide +kernel
theorem d_Vo_configurationAt_8 : decode prog_8_method_4_code 8 = .ok (.getfield 18, 3) := by decide +kernel
theorem d_Vo_configurationAt_11 : decode prog_8_method_4_code 11 = .ok (.iload_n 1, 1) := by decide +kernel
theorem d_Vo_configurationAt_12 : decode prog_8_method_4_code 12 = .ok (.iaload, 1) := by decide +kernel
theorem d_Vo_configurationAt_13 : decode prog_8_method_4_code 13 = .ok (.goto 4, 3) := by decide +kernel
theorem d_Vo_configurationAt_16 : decode prog_8_method_4_code 16 = .ok (.iconst 0, 1) := by decide +kernel
theorem d_Vo_configurationAt_17 : decode prog_8_method_4_code 17 = .ok (.ireturn, 1) := by decide +kernel
theorem d_Vo_isAs_0 : decode prog_8_method_5_code 0 = .ok (.iload_n 1, 1) := by decide +kernel
theorem d_Vo_isAs_1 : decode prog_8_method_5_code 1 = .ok (.invokestatic 21, 3) := by decide +kernel
theorem d_Vo_isAs_4 : decode prog_8_method_5_code 4 = .ok (.ifCond .eq 38, 3) := by decide +kernel
theorem d_Vo_isAs_7 : decode prog_8_method_5_code 7 = .ok (.aload_n 0, 1) := by decide +kernel
theorem d_Vo_isAs_8 : decode prog_8_method_5_code 8 = .ok (.getfield 9, 3) := by decide +kernel
theorem d_Vo_isAs_11 : decode prog_8_method_5_code 11 = .ok (.iload_n 1, 1) := by decide +kernel
theorem d_Vo_isAs_12 : decode prog_8_method_5_code 12 = .ok (.iaload, 1) := by decide +kernel
theorem d_Vo_isAs_13 : decode prog_8_method_5_code 13 = .ok (.iload_n 2, 1) := by decide +kernel
theorem d_Vo_isAs_14 : decode prog_8_method_5_code 14 = .ok (.if_icmp .ne 28, 3) := by decide +kernel
theorem d_Vo_isAs_17 : decode prog_8_method_5_code 17 = .ok (.aload_n 0, 1) := by decide +kernel
theorem d_Vo_isAs_18 : decode prog_8_method_5_code 18 = .ok (.getfield 15, 3) := by decide +kernel
theorem d_Vo_isAs_21 : decode prog_8_method_5_code 21 = .ok (.iload_n 1, 1) := by decide +kernel
theorem d_Vo_isAs_22 : decode prog_8_method_5_code 22 = .ok (.iaload, 1) := by decide +kernel
theorem d_Vo_isAs_23 : decode prog_8_method_5_code 23 = .ok (.iload_n 3, 1) := by decide +kernel
theorem d_Vo_isAs_24 : decode prog_8_method_5_code 24 = .ok (.if_icmp .ne 18, 3) := by decide +kernel
theorem d_Vo_isAs_27 : decode prog_8_method_5_code 27 = .ok (.aload_n 0, 1) := by decide +kernel
theorem d_Vo_isAs_28 : decode prog_8_method_5_code 28 = .ok (.getfield 18, 3) := by decide +kernel
theorem d_Vo_isAs_31 : decode prog_8_method_5_code 31 = .ok (.iload_n 1, 1) := by decide +kernel
theorem d_Vo_isAs_32 : decode prog_8_method_5_code 32 = .ok (.iaload, 1) := by decide +kernel
theorem d_Vo_isAs_33 : decode prog_8_method_5_code 33 = .ok (.iload 4, 2) := by decide +kernel
theorem d_Vo_isAs_35 : decode prog_8_method_5_code 35 = .ok (.if_icmp .ne 7, 3) := by decide +kernel
theorem d_Vo_isAs_38 : decode prog_8_method_5_code 38 = .ok (.iconst 1, 1) := by decide +kernel
theorem d_Vo_isAs_39 : decode prog_8_method_5_code 39 = .ok (.goto 4, 3) := by decide +kernel
theorem d_Vo_isAs_42 : decode prog_8_method_5_code 42 = .ok (.iconst 0, 1) := by decide +kernel
theorem d_Vo_isAs_43 : decode prog_8_method_5_code 43 = .ok (.ireturn, 1) := by decide +kernel
theorem d_Vo_put_0 : decode prog_8_method_6_code 0 = .ok (.iload_n 1, 1) := by decide +kernel
theorem d_Vo_put_1 : decode prog_8_method_6_code 1 = .ok (.invokestatic 21, 3) := by decide +kernel
theorem d_Vo_put_4 : decode prog_8_method_6_code 4 = .ok (.ifCond .eq 25, 3) := by decide +kernel
theorem d_Vo_put_7 : decode prog_8_method_6_code 7 = .ok (.aload_n 0, 1) := by decide +kernel
theorem d_Vo_put_8 : decode prog_8_method_6_code 8 = .ok (.getfield 9, 3) := by decide +kernel
theorem d_Vo_put_11 : decode prog_8_method_6_code 11 = .ok (.iload_n 1, 1) := by decide +kernel
theorem d_Vo_put_12 : decode prog_8_method_6_code 12 = .ok (.iload_n 2, 1) := by decide +kernel
theorem d_Vo_put_13 : decode prog_8_method_6_code 13 = .ok (.iastore, 1) := by decide +kernel
theorem d_Vo_put_14 : decode prog_8_method_6_code 14 = .ok (.aload_n 0, 1) := by decide +kernel
theorem d_Vo_put_15 : decode prog_8_method_6_code 15 = .ok (.getfield 15, 3) := by decide +kernel
theorem d_Vo_put_18 : decode prog_8_method_6_code 18 = .ok (.iload_n 1, 1) := by decide +kernel
theorem d_Vo_put_19 : decode prog_8_method_6_code 19 = .ok (.iload_n 3, 1) := by decide +kernel
theorem d_Vo_put_20 : decode prog_8_method_6_code 20 = .ok (.iastore, 1) := by decide +kernel
theorem d_Vo_put_21 : decode prog_8_method_6_code 21 = .ok (.aload_n 0, 1) := by decide +kernel
theorem d_Vo_put_22 : decode prog_8_method_6_code 22 = .ok (.getfield 18, 3) := by decide +kernel
theorem d_Vo_put_25 : decode prog_8_method_6_code 25 = .ok (.iload_n 1, 1) := by decide +kernel
theorem d_Vo_put_26 : decode prog_8_method_6_code 26 = .ok (.iload 4, 2) := by decide +kernel
theorem d_Vo_put_28 : decode prog_8_method_6_code 28 = .ok (.iastore, 1) := by decide +kernel
theorem d_Vo_put_29 : decode prog_8_method_6_code 29 = .ok (.return_, 1) := by decide +kernel
theorem d_L_cell_0 : decode method_2_code 0 = .ok (.iload_n 1, 1) := by decide +kernel
theorem d_L_cell_1 : decode method_2_code 1 = .ok (.aload_n 0, 1) := by decide +kernel
theorem d_L_cell_2 : decode method_2_code 2 = .ok (.arraylength, 1) := by decide +kernel
theorem d_L_cell_3 : decode method_2_code 3 = .ok (.if_icmp .ge 9, 3) := by decide +kernel
theorem d_L_cell_6 : decode method_2_code 6 = .ok (.aload_n 0, 1) := by decide +kernel
theorem d_L_cell_7 : decode method_2_code 7 = .ok (.iload_n 1, 1) := by decide +kernel
theorem d_L_cell_8 : decode method_2_code 8 = .ok (.iaload, 1) := by decide +kernel
theorem d_L_cell_9 : decode method_2_code 9 = .ok (.goto 4, 3) := by decide +kernel
theorem d_L_cell_12 : decode method_2_code 12 = .ok (.iconst 0, 1) := by decide +kernel
theorem d_L_cell_13 : decode method_2_code 13 = .ok (.ireturn, 1) := by decide +kernel
theorem d_L_law_0 : decode code 0 = .ok (.new 7, 3) := by decide +kernel
theorem d_L_law_3 : decode code 3 = .ok (.dup, 1) := by decide +kernel
theorem d_L_law_4 : decode code 4 = .ok (.aload_n 0, 1) := by decide +kernel
theorem d_L_law_5 : decode code 5 = .ok (.iconst 0, 1) := by decide +kernel
theorem d_L_law_6 : decode code 6 = .ok (.invokestatic 9, 3) := by decide +kernel
theorem d_L_law_9 : decode code 9 = .ok (.aload_n 0, 1) := by decide +kernel
theorem d_L_law_10 : decode code 10 = .ok (.iconst 1, 1) := by decide +kernel
theorem d_L_law_11 : decode code 11 = .ok (.invokestatic 9, 3) := by decide +kernel
theorem d_L_law_14 : decode code 14 = .ok (.aload_n 0, 1) := by decide +kernel
theorem d_L_law_15 : decode code 15 = .ok (.iconst 2, 1) := by decide +kernel
theorem d_L_law_16 : decode code 16 = .ok (.invokestatic 9, 3) := by decide +kernel
theorem d_L_law_19 : decode code 19 = .ok (.invokespecial 15, 3) := by decide +kernel
theorem d_L_law_22 : decode code 22 = .ok (.astore_n 1, 1) := by decide +kernel
theorem d_L_law_23 : decode code 23 = .ok (.new 18, 3) := by decide +kernel
theorem d_L_law_26 : decode code 26 = .ok (.dup, 1) := by decide +kernel
theorem d_L_law_27 : decode code 27 = .ok (.aload_n 0, 1) := by decide +kernel
theorem d_L_law_28 : decode code 28 = .ok (.iconst 0, 1) := by decide +kernel
theorem d_L_law_29 : decode code 29 = .ok (.invokestatic 9, 3) := by decide +kernel
theorem d_L_law_32 : decode code 32 = .ok (.aload_n 0, 1) := by decide +kernel
theorem d_L_law_33 : decode code 33 = .ok (.iconst 1, 1) := by decide +kernel
theorem d_L_law_34 : decode code 34 = .ok (.invokestatic 9, 3) := by decide +kernel
theorem d_L_law_37 : decode code 37 = .ok (.aload_n 0, 1) := by decide +kernel
theorem d_L_law_38 : decode code 38 = .ok (.iconst 2, 1) := by decide +kernel
theorem d_L_law_39 : decode code 39 = .ok (.invokestatic 9, 3) := by decide +kernel
theorem d_L_law_42 : decode code 42 = .ok (.invokespecial 20, 3) := by decide +kernel
theorem d_L_law_45 : decode code 45 = .ok (.astore_n 2, 1) := by decide +kernel
theorem d_L_law_46 : decode code 46 = .ok (.iconst 3, 1) := by decide +kernel
theorem d_L_law_47 : decode code 47 = .ok (.istore_n 3, 1) := by decide +kernel
theorem d_L_law_48 : decode code 48 = .ok (.iload_n 3, 1) := by decide +kernel
theorem d_L_law_49 : decode code 49 = .ok (.aload_n 0, 1) := by decide +kernel
theorem d_L_law_50 : decode code 50 = .ok (.arraylength, 1) := by decide +kernel
theorem d_L_law_51 : decode code 51 = .ok (.iconst 5, 1) := by decide +kernel
theorem d_L_law_52 : decode code 52 = .ok (.isub, 1) := by decide +kernel
theorem d_L_law_53 : decode code 53 = .ok (.if_icmp .gt 702, 3) := by decide +kernel
theorem d_L_law_56 : decode code 56 = .ok (.aload_n 0, 1) := by decide +kernel
theorem d_L_law_57 : decode code 57 = .ok (.iload_n 3, 1) := by decide +kernel
theorem d_L_law_58 : decode code 58 = .ok (.iaload, 1) := by decide +kernel
theorem d_L_law_59 : decode code 59 = .ok (.bipush 31, 2) := by decide +kernel
theorem d_L_law_61 : decode code 61 = .ok (.iand, 1) := by decide +kernel
theorem d_L_law_62 : decode code 62 = .ok (.tableswitch 687 0 18 #[90, 123, 166, 219, 242, 265, 298, 331, 354, 377, 400, 423, 446, 479, 512, 555, 598, 631, 664], 90) := by decide +kernel
theorem d_L_law_152 : decode code 152 = .ok (.aload_n 1, 1) := by decide +kernel
theorem d_L_law_153 : decode code 153 = .ok (.aload_n 0, 1) := by decide +kernel
theorem d_L_law_154 : decode code 154 = .ok (.iload_n 3, 1) := by decide +kernel
theorem d_L_law_155 : decode code 155 = .ok (.iconst 1, 1) := by decide +kernel
theorem d_L_law_156 : decode code 156 = .ok (.iadd, 1) := by decide +kernel
theorem d_L_law_157 : decode code 157 = .ok (.iaload, 1) := by decide +kernel
theorem d_L_law_158 : decode code 158 = .ok (.aload_n 0, 1) := by decide +kernel
theorem d_L_law_159 : decode code 159 = .ok (.iload_n 3, 1) := by decide +kernel
theorem d_L_law_160 : decode code 160 = .ok (.iconst 2, 1) := by decide +kernel
theorem d_L_law_161 : decode code 161 = .ok (.iadd, 1) := by decide +kernel
theorem d_L_law_162 : decode code 162 = .ok (.iaload, 1) := by decide +kernel
theorem d_L_law_163 : decode code 163 = .ok (.invokevirtual 21, 3) := by decide +kernel
theorem d_L_law_166 : decode code 166 = .ok (.aload_n 2, 1) := by decide +kernel
theorem d_L_law_167 : decode code 167 = .ok (.aload_n 0, 1) := by decide +kernel
theorem d_L_law_168 : decode code 168 = .ok (.iload_n 3, 1) := by decide +kernel
theorem d_L_law_169 : decode code 169 = .ok (.iconst 1, 1) := by decide +kernel
theorem d_L_law_170 : decode code 170 = .ok (.iadd, 1) := by decide +kernel
theorem d_L_law_171 : decode code 171 = .ok (.iaload, 1) := by decide +kernel
theorem d_L_law_172 : decode code 172 = .ok (.aload_n 0, 1) := by decide +kernel
theorem d_L_law_173 : decode code 173 = .ok (.iload_n 3, 1) := by decide +kernel
theorem d_L_law_174 : decode code 174 = .ok (.iconst 2, 1) := by decide +kernel
theorem d_L_law_175 : decode code 175 = .ok (.iadd, 1) := by decide +kernel
theorem d_L_law_176 : decode code 176 = .ok (.iaload, 1) := by decide +kernel
theorem d_L_law_177 : decode code 177 = .ok (.invokevirtual 25, 3) := by decide +kernel
theorem d_L_law_180 : decode code 180 = .ok (.if_icmp .eq 569, 3) := by decide +kernel
theorem d_L_law_183 : decode code 183 = .ok (.iconst 0, 1) := by decide +kernel
theorem d_L_law_184 : decode code 184 = .ok (.ireturn, 1) := by decide +kernel
theorem d_L_law_185 : decode code 185 = .ok (.aload_n 1, 1) := by decide +kernel
theorem d_L_law_186 : decode code 186 = .ok (.aload_n 0, 1) := by decide +kernel
theorem d_L_law_187 : decode code 187 = .ok (.iload_n 3, 1) := by decide +kernel
theorem d_L_law_188 : decode code 188 = .ok (.iconst 1, 1) := by decide +kernel
theorem d_L_law_189 : decode code 189 = .ok (.iadd, 1) := by decide +kernel
theorem d_L_law_190 : decode code 190 = .ok (.iaload, 1) := by decide +kernel
theorem d_L_law_191 : decode code 191 = .ok (.aload_n 0, 1) := by decide +kernel
theorem d_L_law_192 : decode code 192 = .ok (.iload_n 3, 1) := by decide +kernel
theorem d_L_law_193 : decode code 193 = .ok (.iconst 2, 1) := by decide +kernel
theorem d_L_law_194 : decode code 194 = .ok (.iadd, 1) := by decide +kernel
theorem d_L_law_195 : decode code 195 = .ok (.iaload, 1) := by decide +kernel
theorem d_L_law_196 : decode code 196 = .ok (.aload_n 0, 1) := by decide +kernel
theorem d_L_law_197 : decode code 197 = .ok (.iload_n 3, 1) := by decide +kernel
theorem d_L_law_198 : decode code 198 = .ok (.iconst 3, 1) := by decide +kernel
theorem d_L_law_199 : decode code 199 = .ok (.iadd, 1) := by decide +kernel
theorem d_L_law_200 : decode code 200 = .ok (.iaload, 1) := by decide +kernel
theorem d_L_law_201 : decode code 201 = .ok (.invokevirtual 26, 3) := by decide +kernel
theorem d_L_law_204 : decode code 204 = .ok (.aload_n 2, 1) := by decide +kernel
theorem d_L_law_205 : decode code 205 = .ok (.aload_n 0, 1) := by decide +kernel
theorem d_L_law_206 : decode code 206 = .ok (.iload_n 3, 1) := by decide +kernel
theorem d_L_law_207 : decode code 207 = .ok (.iconst 1, 1) := by decide +kernel
theorem d_L_law_208 : decode code 208 = .ok (.iadd, 1) := by decide +kernel
theorem d_L_law_209 : decode code 209 = .ok (.iaload, 1) := by decide +kernel
theorem d_L_law_210 : decode code 210 = .ok (.aload_n 0, 1) := by decide +kernel
theorem d_L_law_211 : decode code 211 = .ok (.iload_n 3, 1) := by decide +kernel
theorem d_L_law_212 : decode code 212 = .ok (.iconst 2, 1) := by decide +kernel
theorem d_L_law_213 : decode code 213 = .ok (.iadd, 1) := by decide +kernel
theorem d_L_law_214 : decode code 214 = .ok (.iaload, 1) := by decide +kernel
theorem d_L_law_215 : decode code 215 = .ok (.aload_n 0, 1) := by decide +kernel
theorem d_L_law_216 : decode code 216 = .ok (.iload_n 3, 1) := by decide +kernel
theorem d_L_law_217 : decode code 217 = .ok (.iconst 3, 1) := by decide +kernel
theorem d_L_law_218 : decode code 218 = .ok (.iadd, 1) := by decide +kernel
theorem d_L_law_219 : decode code 219 = .ok (.iaload, 1) := by decide +kernel
theorem d_L_law_220 : decode code 220 = .ok (.invokevirtual 30, 3) := by decide +kernel
theorem d_L_law_223 : decode code 223 = .ok (.if_icmp .eq 526, 3) := by decide +kernel
theorem d_L_law_226 : decode code 226 = .ok (.iconst 0, 1) := by decide +kernel
theorem d_L_law_227 : decode code 227 = .ok (.ireturn, 1) := by decide +kernel
theorem d_L_law_228 : decode code 228 = .ok (.aload_n 1, 1) := by decide +kernel
theorem d_L_law_229 : decode code 229 = .ok (.aload_n 0, 1) := by decide +kernel
theorem d_L_law_230 : decode code 230 = .ok (.iload_n 3, 1) := by decide +kernel
theorem d_L_law_231 : decode code 231 = .ok (.iconst 1, 1) := by decide +kernel
theorem d_L_law_232 : decode code 232 = .ok (.iadd, 1) := by decide +kernel
theorem d_L_law_233 : decode code 233 = .ok (.iaload, 1) := by decide +kernel
theorem d_L_law_234 : decode code 234 = .ok (.aload_n 0, 1) := by decide +kernel
theorem d_L_law_235 : decode code 235 = .ok (.iload_n 3, 1) := by decide +kernel
theorem d_L_law_236 : decode code 236 = .ok (.iconst 2, 1) := by decide +kernel
theorem d_L_law_237 : decode code 237 = .ok (.iadd, 1) := by decide +kernel
theorem d_L_law_238 : decode code 238 = .ok (.iaload, 1) := by decide +kernel
theorem d_L_law_239 : decode code 239 = .ok (.aload_n 0, 1) := by decide +kernel
theorem d_L_law_240 : decode code 240 = .ok (.iload_n 3, 1) := by decide +kernel
theorem d_L_law_241 : decode code 241 = .ok (.iconst 3, 1) := by decide +kernel
theorem d_L_law_242 : decode code 242 = .ok (.iadd, 1) := by decide +kernel
theorem d_L_law_243 : decode code 243 = .ok (.iaload, 1) := by decide +kernel
theorem d_L_law_244 : decode code 244 = .ok (.aload_n 0, 1) := by decide +kernel
theorem d_L_law_245 : decode code 245 = .ok (.iload_n 3, 1) := by decide +kernel
theorem d_L_law_246 : decode code 246 = .ok (.iconst 4, 1) := by decide +kernel
theorem d_L_law_247 : decode code 247 = .ok (.iadd, 1) := by decide +kernel
theorem d_L_law_248 : decode code 248 = .ok (.iaload, 1) := by decide +kernel
theorem d_L_law_249 : decode code 249 = .ok (.invokevirtual 31, 3) := by decide +kernel
theorem d_L_law_252 : decode code 252 = .ok (.aload_n 2, 1) := by decide +kernel
theorem d_L_law_253 : decode code 253 = .ok (.aload_n 0, 1) := by decide +kernel
theorem d_L_law_254 : decode code 254 = .ok (.iload_n 3, 1) := by decide +kernel
theorem d_L_law_255 : decode code 255 = .ok (.iconst 1, 1) := by decide +kernel
theorem d_L_law_256 : decode code 256 = .ok (.iadd, 1) := by decide +kernel
theorem d_L_law_257 : decode code 257 = .ok (.iaload, 1) := by decide +kernel
theorem d_L_law_258 : decode code 258 = .ok (.aload_n 0, 1) := by decide +kernel
theorem d_L_law_259 : decode code 259 = .ok (.iload_n 3, 1) := by decide +kernel
theorem d_L_law_260 : decode code 260 = .ok (.iconst 2, 1) := by decide +kernel
theorem d_L_law_261 : decode code 261 = .ok (.iadd, 1) := by decide +kernel
theorem d_L_law_262 : decode code 262 = .ok (.iaload, 1) := by decide +kernel
theorem d_L_law_263 : decode code 263 = .ok (.aload_n 0, 1) := by decide +kernel
theorem d_L_law_264 : decode code 264 = .ok (.iload_n 3, 1) := by decide +kernel
theorem d_L_law_265 : decode code 265 = .ok (.iconst 3, 1) := by decide +kernel
theorem d_L_law_266 : decode code 266 = .ok (.iadd, 1) := by decide +kernel
theorem d_L_law_267 : decode code 267 = .ok (.iaload, 1) := by decide +kernel
theorem d_L_law_268 : decode code 268 = .ok (.aload_n 0, 1) := by decide +kernel
theorem d_L_law_269 : decode code 269 = .ok (.iload_n 3, 1) := by decide +kernel
theorem d_L_law_270 : decode code 270 = .ok (.iconst 4, 1) := by decide +kernel
theorem d_L_law_271 : decode code 271 = .ok (.iadd, 1) := by decide +kernel
theorem d_L_law_272 : decode code 272 = .ok (.iaload, 1) := by decide +kernel
theorem d_L_law_273 : decode code 273 = .ok (.invokevirtual 35, 3) := by decide +kernel
theorem d_L_law_276 : decode code 276 = .ok (.if_icmp .eq 473, 3) := by decide +kernel
theorem d_L_law_279 : decode code 279 = .ok (.iconst 0, 1) := by decide +kernel
theorem d_L_law_280 : decode code 280 = .ok (.ireturn, 1) := by decide +kernel
theorem d_L_law_281 : decode code 281 = .ok (.aload_n 1, 1) := by decide +kernel
theorem d_L_law_282 : decode code 282 = .ok (.aload_n 0, 1) := by decide +kernel
theorem d_L_law_283 : decode code 283 = .ok (.iload_n 3, 1) := by decide +kernel
theorem d_L_law_284 : decode code 284 = .ok (.iconst 1, 1) := by decide +kernel
theorem d_L_law_285 : decode code 285 = .ok (.iadd, 1) := by decide +kernel
theorem d_L_law_286 : decode code 286 = .ok (.iaload, 1) := by decide +kernel
theorem d_L_law_287 : decode code 287 = .ok (.invokevirtual 36, 3) := by decide +kernel
theorem d_L_law_290 : decode code 290 = .ok (.aload_n 2, 1) := by decide +kernel
theorem d_L_law_291 : decode code 291 = .ok (.aload_n 0, 1) := by decide +kernel
theorem d_L_law_292 : decode code 292 = .ok (.iload_n 3, 1) := by decide +kernel
theorem d_L_law_293 : decode code 293 = .ok (.iconst 1, 1) := by decide +kernel
theorem d_L_law_294 : decode code 294 = .ok (.iadd, 1) := by decide +kernel
theorem d_L_law_295 : decode code 295 = .ok (.iaload, 1) := by decide +kernel
theorem d_L_law_296 : decode code 296 = .ok (.invokevirtual 40, 3) := by decide +kernel
theorem d_L_law_299 : decode code 299 = .ok (.if_icmp .eq 450, 3) := by decide +kernel
theorem d_L_law_302 : decode code 302 = .ok (.iconst 0, 1) := by decide +kernel
theorem d_L_law_303 : decode code 303 = .ok (.ireturn, 1) := by decide +kernel
theorem d_L_law_304 : decode code 304 = .ok (.aload_n 1, 1) := by decide +kernel
theorem d_L_law_305 : decode code 305 = .ok (.aload_n 0, 1) := by decide +kernel
theorem d_L_law_306 : decode code 306 = .ok (.iload_n 3, 1) := by decide +kernel
theorem d_L_law_307 : decode code 307 = .ok (.iconst 1, 1) := by decide +kernel
theorem d_L_law_308 : decode code 308 = .ok (.iadd, 1) := by decide +kernel
theorem d_L_law_309 : decode code 309 = .ok (.iaload, 1) := by decide +kernel
theorem d_L_law_310 : decode code 310 = .ok (.invokevirtual 41, 3) := by decide +kernel
theorem d_L_law_313 : decode code 313 = .ok (.aload_n 2, 1) := by decide +kernel
theorem d_L_law_314 : decode code 314 = .ok (.aload_n 0, 1) := by decide +kernel
theorem d_L_law_315 : decode code 315 = .ok (.iload_n 3, 1) := by decide +kernel
theorem d_L_law_316 : decode code 316 = .ok (.iconst 1, 1) := by decide +kernel
theorem d_L_law_317 : decode code 317 = .ok (.iadd, 1) := by decide +kernel
theorem d_L_law_318 : decode code 318 = .ok (.iaload, 1) := by decide +kernel
theorem d_L_law_319 : decode code 319 = .ok (.invokevirtual 44, 3) := by decide +kernel
theorem d_L_law_322 : decode code 322 = .ok (.if_icmp .eq 427, 3) := by decide +kernel
theorem d_L_law_325 : decode code 325 = .ok (.iconst 0, 1) := by decide +kernel
theorem d_L_law_326 : decode code 326 = .ok (.ireturn, 1) := by decide +kernel
theorem d_L_law_327 : decode code 327 = .ok (.aload_n 1, 1) := by decide +kernel
theorem d_L_law_328 : decode code 328 = .ok (.aload_n 0, 1) := by decide +kernel
theorem d_L_law_329 : decode code 329 = .ok (.iload_n 3, 1) := by decide +kernel
theorem d_L_law_330 : decode code 330 = .ok (.iconst 1, 1) := by decide +kernel
theorem d_L_law_331 : decode code 331 = .ok (.iadd, 1) := by decide +kernel
theorem d_L_law_332 : decode code 332 = .ok (.iaload, 1) := by decide +kernel
theorem d_L_law_333 : decode code 333 = .ok (.aload_n 0, 1) := by decide +kernel
theorem d_L_law_334 : decode code 334 = .ok (.iload_n 3, 1) := by decide +kernel
theorem d_L_law_335 : decode code 335 = .ok (.iconst 2, 1) := by decide +kernel
theorem d_L_law_336 : decode code 336 = .ok (.iadd, 1) := by decide +kernel
theorem d_L_law_337 : decode code 337 = .ok (.iaload, 1) := by decide +kernel
theorem d_L_law_338 : decode code 338 = .ok (.invokevirtual 45, 3) := by decide +kernel
theorem d_L_law_341 : decode code 341 = .ok (.aload_n 2, 1) := by decide +kernel
theorem d_L_law_342 : decode code 342 = .ok (.aload_n 0, 1) := by decide +kernel
theorem d_L_law_343 : decode code 343 = .ok (.iload_n 3, 1) := by decide +kernel
theorem d_L_law_344 : decode code 344 = .ok (.iconst 1, 1) := by decide +kernel
theorem d_L_law_345 : decode code 345 = .ok (.iadd, 1) := by decide +kernel
theorem d_L_law_346 : decode code 346 = .ok (.iaload, 1) := by decide +kernel
theorem d_L_law_347 : decode code 347 = .ok (.aload_n 0, 1) := by decide +kernel
theorem d_L_law_348 : decode code 348 = .ok (.iload_n 3, 1) := by decide +kernel
theorem d_L_law_349 : decode code 349 = .ok (.iconst 2, 1) := by decide +kernel
theorem d_L_law_350 : decode code 350 = .ok (.iadd, 1) := by decide +kernel
theorem d_L_law_351 : decode code 351 = .ok (.iaload, 1) := by decide +kernel
theorem d_L_law_352 : decode code 352 = .ok (.invokevirtual 49, 3) := by decide +kernel
theorem d_L_law_355 : decode code 355 = .ok (.if_icmp .eq 394, 3) := by decide +kernel
theorem d_L_law_358 : decode code 358 = .ok (.iconst 0, 1) := by decide +kernel
theorem d_L_law_359 : decode code 359 = .ok (.ireturn, 1) := by decide +kernel
theorem d_L_law_360 : decode code 360 = .ok (.aload_n 1, 1) := by decide +kernel
theorem d_L_law_361 : decode code 361 = .ok (.aload_n 0, 1) := by decide +kernel
theorem d_L_law_362 : decode code 362 = .ok (.iload_n 3, 1) := by decide +kernel
theorem d_L_law_363 : decode code 363 = .ok (.iconst 1, 1) := by decide +kernel
theorem d_L_law_364 : decode code 364 = .ok (.iadd, 1) := by decide +kernel
theorem d_L_law_365 : decode code 365 = .ok (.iaload, 1) := by decide +kernel
theorem d_L_law_366 : decode code 366 = .ok (.aload_n 0, 1) := by decide +kernel
theorem d_L_law_367 : decode code 367 = .ok (.iload_n 3, 1) := by decide +kernel
theorem d_L_law_368 : decode code 368 = .ok (.iconst 2, 1) := by decide +kernel
theorem d_L_law_369 : decode code 369 = .ok (.iadd, 1) := by decide +kernel
theorem d_L_law_370 : decode code 370 = .ok (.iaload, 1) := by decide +kernel
theorem d_L_law_371 : decode code 371 = .ok (.invokevirtual 50, 3) := by decide +kernel
theorem d_L_law_374 : decode code 374 = .ok (.aload_n 2, 1) := by decide +kernel
theorem d_L_law_375 : decode code 375 = .ok (.aload_n 0, 1) := by decide +kernel
theorem d_L_law_376 : decode code 376 = .ok (.iload_n 3, 1) := by decide +kernel
theorem d_L_law_377 : decode code 377 = .ok (.iconst 1, 1) := by decide +kernel
theorem d_L_law_378 : decode code 378 = .ok (.iadd, 1) := by decide +kernel
theorem d_L_law_379 : decode code 379 = .ok (.iaload, 1) := by decide +kernel
theorem d_L_law_380 : decode code 380 = .ok (.aload_n 0, 1) := by decide +kernel
theorem d_L_law_381 : decode code 381 = .ok (.iload_n 3, 1) := by decide +kernel
theorem d_L_law_382 : decode code 382 = .ok (.iconst 2, 1) := by decide +kernel
theorem d_L_law_383 : decode code 383 = .ok (.iadd, 1) := by decide +kernel
theorem d_L_law_384 : decode code 384 = .ok (.iaload, 1) := by decide +kernel
theorem d_L_law_385 : decode code 385 = .ok (.invokevirtual 53, 3) := by decide +kernel
theorem d_L_law_388 : decode code 388 = .ok (.if_icmp .eq 361, 3) := by decide +kernel
theorem d_L_law_391 : decode code 391 = .ok (.iconst 0, 1) := by decide +kernel
theorem d_L_law_392 : decode code 392 = .ok (.ireturn, 1) := by decide +kernel
theorem d_L_law_393 : decode code 393 = .ok (.aload_n 1, 1) := by decide +kernel
theorem d_L_law_394 : decode code 394 = .ok (.aload_n 0, 1) := by decide +kernel
theorem d_L_law_395 : decode code 395 = .ok (.iload_n 3, 1) := by decide +kernel
theorem d_L_law_396 : decode code 396 = .ok (.iconst 1, 1) := by decide +kernel
theorem d_L_law_397 : decode code 397 = .ok (.iadd, 1) := by decide +kernel
theorem d_L_law_398 : decode code 398 = .ok (.iaload, 1) := by decide +kernel
theorem d_L_law_399 : decode code 399 = .ok (.invokevirtual 54, 3) := by decide +kernel
theorem d_L_law_402 : decode code 402 = .ok (.aload_n 2, 1) := by decide +kernel
theorem d_L_law_403 : decode code 403 = .ok (.aload_n 0, 1) := by decide +kernel
theorem d_L_law_404 : decode code 404 = .ok (.iload_n 3, 1) := by decide +kernel
theorem d_L_law_405 : decode code 405 = .ok (.iconst 1, 1) := by decide +kernel
theorem d_L_law_406 : decode code 406 = .ok (.iadd, 1) := by decide +kernel
theorem d_L_law_407 : decode code 407 = .ok (.iaload, 1) := by decide +kernel
theorem d_L_law_408 : decode code 408 = .ok (.invokevirtual 57, 3) := by decide +kernel
theorem d_L_law_411 : decode code 411 = .ok (.if_icmp .eq 338, 3) := by decide +kernel
theorem d_L_law_414 : decode code 414 = .ok (.iconst 0, 1) := by decide +kernel
theorem d_L_law_415 : decode code 415 = .ok (.ireturn, 1) := by decide +kernel
theorem d_L_law_416 : decode code 416 = .ok (.aload_n 1, 1) := by decide +kernel
theorem d_L_law_417 : decode code 417 = .ok (.aload_n 0, 1) := by decide +kernel
theorem d_L_law_418 : decode code 418 = .ok (.iload_n 3, 1) := by decide +kernel
theorem d_L_law_419 : decode code 419 = .ok (.iconst 1, 1) := by decide +kernel
theorem d_L_law_420 : decode code 420 = .ok (.iadd, 1) := by decide +kernel
theorem d_L_law_421 : decode code 421 = .ok (.iaload, 1) := by decide +kernel
theorem d_L_law_422 : decode code 422 = .ok (.invokevirtual 58, 3) := by decide +kernel
theorem d_L_law_425 : decode code 425 = .ok (.aload_n 2, 1) := by decide +kernel
theorem d_L_law_426 : decode code 426 = .ok (.aload_n 0, 1) := by decide +kernel
theorem d_L_law_427 : decode code 427 = .ok (.iload_n 3, 1) := by decide +kernel
theorem d_L_law_428 : decode code 428 = .ok (.iconst 1, 1) := by decide +kernel
theorem d_L_law_429 : decode code 429 = .ok (.iadd, 1) := by decide +kernel
theorem d_L_law_430 : decode code 430 = .ok (.iaload, 1) := by decide +kernel
theorem d_L_law_431 : decode code 431 = .ok (.invokevirtual 62, 3) := by decide +kernel
theorem d_L_law_434 : decode code 434 = .ok (.if_icmp .eq 315, 3) := by decide +kernel
theorem d_L_law_437 : decode code 437 = .ok (.iconst 0, 1) := by decide +kernel
theorem d_L_law_438 : decode code 438 = .ok (.ireturn, 1) := by decide +kernel
theorem d_L_law_439 : decode code 439 = .ok (.aload_n 1, 1) := by decide +kernel
theorem d_L_law_440 : decode code 440 = .ok (.aload_n 0, 1) := by decide +kernel
theorem d_L_law_441 : decode code 441 = .ok (.iload_n 3, 1) := by decide +kernel
theorem d_L_law_442 : decode code 442 = .ok (.iconst 1, 1) := by decide +kernel
theorem d_L_law_443 : decode code 443 = .ok (.iadd, 1) := by decide +kernel
theorem d_L_law_444 : decode code 444 = .ok (.iaload, 1) := by decide +kernel
theorem d_L_law_445 : decode code 445 = .ok (.invokevirtual 63, 3) := by decide +kernel
theorem d_L_law_448 : decode code 448 = .ok (.aload_n 2, 1) := by decide +kernel
theorem d_L_law_449 : decode code 449 = .ok (.aload_n 0, 1) := by decide +kernel
theorem d_L_law_450 : decode code 450 = .ok (.iload_n 3, 1) := by decide +kernel
theorem d_L_law_451 : decode code 451 = .ok (.iconst 1, 1) := by decide +kernel
theorem d_L_law_452 : decode code 452 = .ok (.iadd, 1) := by decide +kernel
theorem d_L_law_453 : decode code 453 = .ok (.iaload, 1) := by decide +kernel
theorem d_L_law_454 : decode code 454 = .ok (.invokevirtual 66, 3) := by decide +kernel
theorem d_L_law_457 : decode code 457 = .ok (.if_icmp .eq 292, 3) := by decide +kernel
theorem d_L_law_460 : decode code 460 = .ok (.iconst 0, 1) := by decide +kernel
theorem d_L_law_461 : decode code 461 = .ok (.ireturn, 1) := by decide +kernel
theorem d_L_law_462 : decode code 462 = .ok (.aload_n 1, 1) := by decide +kernel
theorem d_L_law_463 : decode code 463 = .ok (.aload_n 0, 1) := by decide +kernel
theorem d_L_law_464 : decode code 464 = .ok (.iload_n 3, 1) := by decide +kernel
theorem d_L_law_465 : decode code 465 = .ok (.iconst 1, 1) := by decide +kernel
theorem d_L_law_466 : decode code 466 = .ok (.iadd, 1) := by decide +kernel
theorem d_L_law_467 : decode code 467 = .ok (.iaload, 1) := by decide +kernel
theorem d_L_law_468 : decode code 468 = .ok (.invokevirtual 67, 3) := by decide +kernel
theorem d_L_law_471 : decode code 471 = .ok (.aload_n 2, 1) := by decide +kernel
theorem d_L_law_472 : decode code 472 = .ok (.aload_n 0, 1) := by decide +kernel
theorem d_L_law_473 : decode code 473 = .ok (.iload_n 3, 1) := by decide +kernel
theorem d_L_law_474 : decode code 474 = .ok (.iconst 1, 1) := by decide +kernel
theorem d_L_law_475 : decode code 475 = .ok (.iadd, 1) := by decide +kernel
theorem d_L_law_476 : decode code 476 = .ok (.iaload, 1) := by decide +kernel
theorem d_L_law_477 : decode code 477 = .ok (.invokevirtual 70, 3) := by decide +kernel
theorem d_L_law_480 : decode code 480 = .ok (.if_icmp .eq 269, 3) := by decide +kernel
theorem d_L_law_483 : decode code 483 = .ok (.iconst 0, 1) := by decide +kernel
theorem d_L_law_484 : decode code 484 = .ok (.ireturn, 1) := by decide +kernel
theorem d_L_law_485 : decode code 485 = .ok (.aload_n 1, 1) := by decide +kernel
theorem d_L_law_486 : decode code 486 = .ok (.aload_n 0, 1) := by decide +kernel
theorem d_L_law_487 : decode code 487 = .ok (.iload_n 3, 1) := by decide +kernel
theorem d_L_law_488 : decode code 488 = .ok (.iconst 1, 1) := by decide +kernel
theorem d_L_law_489 : decode code 489 = .ok (.iadd, 1) := by decide +kernel
theorem d_L_law_490 : decode code 490 = .ok (.iaload, 1) := by decide +kernel
theorem d_L_law_491 : decode code 491 = .ok (.invokevirtual 71, 3) := by decide +kernel
theorem d_L_law_494 : decode code 494 = .ok (.aload_n 2, 1) := by decide +kernel
theorem d_L_law_495 : decode code 495 = .ok (.aload_n 0, 1) := by decide +kernel
theorem d_L_law_496 : decode code 496 = .ok (.iload_n 3, 1) := by decide +kernel
theorem d_L_law_497 : decode code 497 = .ok (.iconst 1, 1) := by decide +kernel
theorem d_L_law_498 : decode code 498 = .ok (.iadd, 1) := by decide +kernel
theorem d_L_law_499 : decode code 499 = .ok (.iaload, 1) := by decide +kernel
theorem d_L_law_500 : decode code 500 = .ok (.invokevirtual 74, 3) := by decide +kernel
theorem d_L_law_503 : decode code 503 = .ok (.if_icmp .eq 246, 3) := by decide +kernel
theorem d_L_law_506 : decode code 506 = .ok (.iconst 0, 1) := by decide +kernel
theorem d_L_law_507 : decode code 507 = .ok (.ireturn, 1) := by decide +kernel
theorem d_L_law_508 : decode code 508 = .ok (.aload_n 1, 1) := by decide +kernel
theorem d_L_law_509 : decode code 509 = .ok (.aload_n 0, 1) := by decide +kernel
theorem d_L_law_510 : decode code 510 = .ok (.iload_n 3, 1) := by decide +kernel
theorem d_L_law_511 : decode code 511 = .ok (.iconst 1, 1) := by decide +kernel
theorem d_L_law_512 : decode code 512 = .ok (.iadd, 1) := by decide +kernel
theorem d_L_law_513 : decode code 513 = .ok (.iaload, 1) := by decide +kernel
theorem d_L_law_514 : decode code 514 = .ok (.aload_n 0, 1) := by decide +kernel
theorem d_L_law_515 : decode code 515 = .ok (.iload_n 3, 1) := by decide +kernel
theorem d_L_law_516 : decode code 516 = .ok (.iconst 2, 1) := by decide +kernel
theorem d_L_law_517 : decode code 517 = .ok (.iadd, 1) := by decide +kernel
theorem d_L_law_518 : decode code 518 = .ok (.iaload, 1) := by decide +kernel
theorem d_L_law_519 : decode code 519 = .ok (.invokevirtual 75, 3) := by decide +kernel
theorem d_L_law_522 : decode code 522 = .ok (.aload_n 2, 1) := by decide +kernel
theorem d_L_law_523 : decode code 523 = .ok (.aload_n 0, 1) := by decide +kernel
theorem d_L_law_524 : decode code 524 = .ok (.iload_n 3, 1) := by decide +kernel
theorem d_L_law_525 : decode code 525 = .ok (.iconst 1, 1) := by decide +kernel
theorem d_L_law_526 : decode code 526 = .ok (.iadd, 1) := by decide +kernel
theorem d_L_law_527 : decode code 527 = .ok (.iaload, 1) := by decide +kernel
theorem d_L_law_528 : decode code 528 = .ok (.aload_n 0, 1) := by decide +kernel
theorem d_L_law_529 : decode code 529 = .ok (.iload_n 3, 1) := by decide +kernel
theorem d_L_law_530 : decode code 530 = .ok (.iconst 2, 1) := by decide +kernel
theorem d_L_law_531 : decode code 531 = .ok (.iadd, 1) := by decide +kernel
theorem d_L_law_532 : decode code 532 = .ok (.iaload, 1) := by decide +kernel
theorem d_L_law_533 : decode code 533 = .ok (.invokevirtual 78, 3) := by decide +kernel
theorem d_L_law_536 : decode code 536 = .ok (.if_icmp .eq 213, 3) := by decide +kernel
theorem d_L_law_539 : decode code 539 = .ok (.iconst 0, 1) := by decide +kernel
theorem d_L_law_540 : decode code 540 = .ok (.ireturn, 1) := by decide +kernel
theorem d_L_law_541 : decode code 541 = .ok (.aload_n 1, 1) := by decide +kernel
theorem d_L_law_542 : decode code 542 = .ok (.aload_n 0, 1) := by decide +kernel
theorem d_L_law_543 : decode code 543 = .ok (.iload_n 3, 1) := by decide +kernel
theorem d_L_law_544 : decode code 544 = .ok (.iconst 1, 1) := by decide +kernel
theorem d_L_law_545 : decode code 545 = .ok (.iadd, 1) := by decide +kernel
theorem d_L_law_546 : decode code 546 = .ok (.iaload, 1) := by decide +kernel
theorem d_L_law_547 : decode code 547 = .ok (.aload_n 0, 1) := by decide +kernel
theorem d_L_law_548 : decode code 548 = .ok (.iload_n 3, 1) := by decide +kernel
theorem d_L_law_549 : decode code 549 = .ok (.iconst 2, 1) := by decide +kernel
theorem d_L_law_550 : decode code 550 = .ok (.iadd, 1) := by decide +kernel
theorem d_L_law_551 : decode code 551 = .ok (.iaload, 1) := by decide +kernel
theorem d_L_law_552 : decode code 552 = .ok (.invokevirtual 79, 3) := by decide +kernel
theorem d_L_law_555 : decode code 555 = .ok (.aload_n 2, 1) := by decide +kernel
theorem d_L_law_556 : decode code 556 = .ok (.aload_n 0, 1) := by decide +kernel
theorem d_L_law_557 : decode code 557 = .ok (.iload_n 3, 1) := by decide +kernel
theorem d_L_law_558 : decode code 558 = .ok (.iconst 1, 1) := by decide +kernel
theorem d_L_law_559 : decode code 559 = .ok (.iadd, 1) := by decide +kernel
theorem d_L_law_560 : decode code 560 = .ok (.iaload, 1) := by decide +kernel
theorem d_L_law_561 : decode code 561 = .ok (.aload_n 0, 1) := by decide +kernel
theorem d_L_law_562 : decode code 562 = .ok (.iload_n 3, 1) := by decide +kernel
theorem d_L_law_563 : decode code 563 = .ok (.iconst 2, 1) := by decide +kernel
theorem d_L_law_564 : decode code 564 = .ok (.iadd, 1) := by decide +kernel
theorem d_L_law_565 : decode code 565 = .ok (.iaload, 1) := by decide +kernel
theorem d_L_law_566 : decode code 566 = .ok (.invokevirtual 82, 3) := by decide +kernel
theorem d_L_law_569 : decode code 569 = .ok (.if_icmp .eq 180, 3) := by decide +kernel
theorem d_L_law_572 : decode code 572 = .ok (.iconst 0, 1) := by decide +kernel
theorem d_L_law_573 : decode code 573 = .ok (.ireturn, 1) := by decide +kernel
theorem d_L_law_574 : decode code 574 = .ok (.aload_n 1, 1) := by decide +kernel
theorem d_L_law_575 : decode code 575 = .ok (.aload_n 0, 1) := by decide +kernel
theorem d_L_law_576 : decode code 576 = .ok (.iload_n 3, 1) := by decide +kernel
theorem d_L_law_577 : decode code 577 = .ok (.iconst 1, 1) := by decide +kernel
theorem d_L_law_578 : decode code 578 = .ok (.iadd, 1) := by decide +kernel
theorem d_L_law_579 : decode code 579 = .ok (.iaload, 1) := by decide +kernel
theorem d_L_law_580 : decode code 580 = .ok (.aload_n 0, 1) := by decide +kernel
theorem d_L_law_581 : decode code 581 = .ok (.iload_n 3, 1) := by decide +kernel
theorem d_L_law_582 : decode code 582 = .ok (.iconst 2, 1) := by decide +kernel
theorem d_L_law_583 : decode code 583 = .ok (.iadd, 1) := by decide +kernel
theorem d_L_law_584 : decode code 584 = .ok (.iaload, 1) := by decide +kernel
theorem d_L_law_585 : decode code 585 = .ok (.aload_n 0, 1) := by decide +kernel
theorem d_L_law_586 : decode code 586 = .ok (.iload_n 3, 1) := by decide +kernel
theorem d_L_law_587 : decode code 587 = .ok (.iconst 3, 1) := by decide +kernel
theorem d_L_law_588 : decode code 588 = .ok (.iadd, 1) := by decide +kernel
theorem d_L_law_589 : decode code 589 = .ok (.iaload, 1) := by decide +kernel
theorem d_L_law_590 : decode code 590 = .ok (.invokevirtual 83, 3) := by decide +kernel
theorem d_L_law_593 : decode code 593 = .ok (.aload_n 2, 1) := by decide +kernel
theorem d_L_law_594 : decode code 594 = .ok (.aload_n 0, 1) := by decide +kernel
theorem d_L_law_595 : decode code 595 = .ok (.iload_n 3, 1) := by decide +kernel
theorem d_L_law_596 : decode code 596 = .ok (.iconst 1, 1) := by decide +kernel
theorem d_L_law_597 : decode code 597 = .ok (.iadd, 1) := by decide +kernel
theorem d_L_law_598 : decode code 598 = .ok (.iaload, 1) := by decide +kernel
theorem d_L_law_599 : decode code 599 = .ok (.aload_n 0, 1) := by decide +kernel
theorem d_L_law_600 : decode code 600 = .ok (.iload_n 3, 1) := by decide +kernel
theorem d_L_law_601 : decode code 601 = .ok (.iconst 2, 1) := by decide +kernel
theorem d_L_law_602 : decode code 602 = .ok (.iadd, 1) := by decide +kernel
theorem d_L_law_603 : decode code 603 = .ok (.iaload, 1) := by decide +kernel
theorem d_L_law_604 : decode code 604 = .ok (.aload_n 0, 1) := by decide +kernel
theorem d_L_law_605 : decode code 605 = .ok (.iload_n 3, 1) := by decide +kernel
theorem d_L_law_606 : decode code 606 = .ok (.iconst 3, 1) := by decide +kernel
theorem d_L_law_607 : decode code 607 = .ok (.iadd, 1) := by decide +kernel
theorem d_L_law_608 : decode code 608 = .ok (.iaload, 1) := by decide +kernel
theorem d_L_law_609 : decode code 609 = .ok (.invokevirtual 85, 3) := by decide +kernel
theorem d_L_law_612 : decode code 612 = .ok (.if_icmp .eq 137, 3) := by decide +kernel
theorem d_L_law_615 : decode code 615 = .ok (.iconst 0, 1) := by decide +kernel
theorem d_L_law_616 : decode code 616 = .ok (.ireturn, 1) := by decide +kernel
theorem d_L_law_617 : decode code 617 = .ok (.aload_n 1, 1) := by decide +kernel
theorem d_L_law_618 : decode code 618 = .ok (.aload_n 0, 1) := by decide +kernel
theorem d_L_law_619 : decode code 619 = .ok (.iload_n 3, 1) := by decide +kernel
theorem d_L_law_620 : decode code 620 = .ok (.iconst 1, 1) := by decide +kernel
theorem d_L_law_621 : decode code 621 = .ok (.iadd, 1) := by decide +kernel
theorem d_L_law_622 : decode code 622 = .ok (.iaload, 1) := by decide +kernel
theorem d_L_law_623 : decode code 623 = .ok (.aload_n 0, 1) := by decide +kernel
theorem d_L_law_624 : decode code 624 = .ok (.iload_n 3, 1) := by decide +kernel
theorem d_L_law_625 : decode code 625 = .ok (.iconst 2, 1) := by decide +kernel
theorem d_L_law_626 : decode code 626 = .ok (.iadd, 1) := by decide +kernel
theorem d_L_law_627 : decode code 627 = .ok (.iaload, 1) := by decide +kernel
theorem d_L_law_628 : decode code 628 = .ok (.aload_n 0, 1) := by decide +kernel
theorem d_L_law_629 : decode code 629 = .ok (.iload_n 3, 1) := by decide +kernel
theorem d_L_law_630 : decode code 630 = .ok (.iconst 3, 1) := by decide +kernel
theorem d_L_law_631 : decode code 631 = .ok (.iadd, 1) := by decide +kernel
theorem d_L_law_632 : decode code 632 = .ok (.iaload, 1) := by decide +kernel
theorem d_L_law_633 : decode code 633 = .ok (.invokevirtual 86, 3) := by decide +kernel
theorem d_L_law_636 : decode code 636 = .ok (.aload_n 2, 1) := by decide +kernel
theorem d_L_law_637 : decode code 637 = .ok (.aload_n 0, 1) := by decide +kernel
theorem d_L_law_638 : decode code 638 = .ok (.iload_n 3, 1) := by decide +kernel
theorem d_L_law_639 : decode code 639 = .ok (.iconst 1, 1) := by decide +kernel
theorem d_L_law_640 : decode code 640 = .ok (.iadd, 1) := by decide +kernel
theorem d_L_law_641 : decode code 641 = .ok (.iaload, 1) := by decide +kernel
theorem d_L_law_642 : decode code 642 = .ok (.aload_n 0, 1) := by decide +kernel
theorem d_L_law_643 : decode code 643 = .ok (.iload_n 3, 1) := by decide +kernel
theorem d_L_law_644 : decode code 644 = .ok (.iconst 2, 1) := by decide +kernel
theorem d_L_law_645 : decode code 645 = .ok (.iadd, 1) := by decide +kernel
theorem d_L_law_646 : decode code 646 = .ok (.iaload, 1) := by decide +kernel
theorem d_L_law_647 : decode code 647 = .ok (.aload_n 0, 1) := by decide +kernel
theorem d_L_law_648 : decode code 648 = .ok (.iload_n 3, 1) := by decide +kernel
theorem d_L_law_649 : decode code 649 = .ok (.iconst 3, 1) := by decide +kernel
theorem d_L_law_650 : decode code 650 = .ok (.iadd, 1) := by decide +kernel
theorem d_L_law_651 : decode code 651 = .ok (.iaload, 1) := by decide +kernel
theorem d_L_law_652 : decode code 652 = .ok (.invokevirtual 89, 3) := by decide +kernel
theorem d_L_law_655 : decode code 655 = .ok (.if_icmp .eq 94, 3) := by decide +kernel
theorem d_L_law_658 : decode code 658 = .ok (.iconst 0, 1) := by decide +kernel
theorem d_L_law_659 : decode code 659 = .ok (.ireturn, 1) := by decide +kernel
theorem d_L_law_660 : decode code 660 = .ok (.aload_n 1, 1) := by decide +kernel
theorem d_L_law_661 : decode code 661 = .ok (.aload_n 0, 1) := by decide +kernel
theorem d_L_law_662 : decode code 662 = .ok (.iload_n 3, 1) := by decide +kernel
theorem d_L_law_663 : decode code 663 = .ok (.iconst 1, 1) := by decide +kernel
theorem d_L_law_664 : decode code 664 = .ok (.iadd, 1) := by decide +kernel
theorem d_L_law_665 : decode code 665 = .ok (.iaload, 1) := by decide +kernel
theorem d_L_law_666 : decode code 666 = .ok (.aload_n 0, 1) := by decide +kernel
theorem d_L_law_667 : decode code 667 = .ok (.iload_n 3, 1) := by decide +kernel
theorem d_L_law_668 : decode code 668 = .ok (.iconst 2, 1) := by decide +kernel
theorem d_L_law_669 : decode code 669 = .ok (.iadd, 1) := by decide +kernel
theorem d_L_law_670 : decode code 670 = .ok (.iaload, 1) := by decide +kernel
theorem d_L_law_671 : decode code 671 = .ok (.invokevirtual 90, 3) := by decide +kernel
theorem d_L_law_674 : decode code 674 = .ok (.aload_n 2, 1) := by decide +kernel
theorem d_L_law_675 : decode code 675 = .ok (.aload_n 0, 1) := by decide +kernel
theorem d_L_law_676 : decode code 676 = .ok (.iload_n 3, 1) := by decide +kernel
theorem d_L_law_677 : decode code 677 = .ok (.iconst 1, 1) := by decide +kernel
theorem d_L_law_678 : decode code 678 = .ok (.iadd, 1) := by decide +kernel
theorem d_L_law_679 : decode code 679 = .ok (.iaload, 1) := by decide +kernel
theorem d_L_law_680 : decode code 680 = .ok (.aload_n 0, 1) := by decide +kernel
theorem d_L_law_681 : decode code 681 = .ok (.iload_n 3, 1) := by decide +kernel
theorem d_L_law_682 : decode code 682 = .ok (.iconst 2, 1) := by decide +kernel
theorem d_L_law_683 : decode code 683 = .ok (.iadd, 1) := by decide +kernel
theorem d_L_law_684 : decode code 684 = .ok (.iaload, 1) := by decide +kernel
theorem d_L_law_685 : decode code 685 = .ok (.invokevirtual 93, 3) := by decide +kernel
theorem d_L_law_688 : decode code 688 = .ok (.if_icmp .eq 61, 3) := by decide +kernel
theorem d_L_law_691 : decode code 691 = .ok (.iconst 0, 1) := by decide +kernel
theorem d_L_law_692 : decode code 692 = .ok (.ireturn, 1) := by decide +kernel
theorem d_L_law_693 : decode code 693 = .ok (.aload_n 1, 1) := by decide +kernel
theorem d_L_law_694 : decode code 694 = .ok (.aload_n 0, 1) := by decide +kernel
theorem d_L_law_695 : decode code 695 = .ok (.iload_n 3, 1) := by decide +kernel
theorem d_L_law_696 : decode code 696 = .ok (.iconst 1, 1) := by decide +kernel
theorem d_L_law_697 : decode code 697 = .ok (.iadd, 1) := by decide +kernel
theorem d_L_law_698 : decode code 698 = .ok (.iaload, 1) := by decide +kernel
theorem d_L_law_699 : decode code 699 = .ok (.aload_n 0, 1) := by decide +kernel
theorem d_L_law_700 : decode code 700 = .ok (.iload_n 3, 1) := by decide +kernel
theorem d_L_law_701 : decode code 701 = .ok (.iconst 2, 1) := by decide +kernel
theorem d_L_law_702 : decode code 702 = .ok (.iadd, 1) := by decide +kernel
theorem d_L_law_703 : decode code 703 = .ok (.iaload, 1) := by decide +kernel
theorem d_L_law_704 : decode code 704 = .ok (.invokevirtual 94, 3) := by decide +kernel
theorem d_L_law_707 : decode code 707 = .ok (.aload_n 2, 1) := by decide +kernel
theorem d_L_law_708 : decode code 708 = .ok (.aload_n 0, 1) := by decide +kernel
theorem d_L_law_709 : decode code 709 = .ok (.iload_n 3, 1) := by decide +kernel
theorem d_L_law_710 : decode code 710 = .ok (.iconst 1, 1) := by decide +kernel
theorem d_L_law_711 : decode code 711 = .ok (.iadd, 1) := by decide +kernel
theorem d_L_law_712 : decode code 712 = .ok (.iaload, 1) := by decide +kernel
theorem d_L_law_713 : decode code 713 = .ok (.aload_n 0, 1) := by decide +kernel
theorem d_L_law_714 : decode code 714 = .ok (.iload_n 3, 1) := by decide +kernel
theorem d_L_law_715 : decode code 715 = .ok (.iconst 2, 1) := by decide +kernel
theorem d_L_law_716 : decode code 716 = .ok (.iadd, 1) := by decide +kernel
theorem d_L_law_717 : decode code 717 = .ok (.iaload, 1) := by decide +kernel
theorem d_L_law_718 : decode code 718 = .ok (.invokevirtual 97, 3) := by decide +kernel
theorem d_L_law_721 : decode code 721 = .ok (.if_icmp .eq 28, 3) := by decide +kernel
theorem d_L_law_724 : decode code 724 = .ok (.iconst 0, 1) := by decide +kernel
theorem d_L_law_725 : decode code 725 = .ok (.ireturn, 1) := by decide +kernel
theorem d_L_law_726 : decode code 726 = .ok (.aload_n 1, 1) := by decide +kernel
theorem d_L_law_727 : decode code 727 = .ok (.aload_n 0, 1) := by decide +kernel
theorem d_L_law_728 : decode code 728 = .ok (.iload_n 3, 1) := by decide +kernel
theorem d_L_law_729 : decode code 729 = .ok (.iconst 1, 1) := by decide +kernel
theorem d_L_law_730 : decode code 730 = .ok (.iadd, 1) := by decide +kernel
theorem d_L_law_731 : decode code 731 = .ok (.iaload, 1) := by decide +kernel
theorem d_L_law_732 : decode code 732 = .ok (.invokevirtual 98, 3) := by decide +kernel
theorem d_L_law_735 : decode code 735 = .ok (.aload_n 2, 1) := by decide +kernel
theorem d_L_law_736 : decode code 736 = .ok (.aload_n 0, 1) := by decide +kernel
theorem d_L_law_737 : decode code 737 = .ok (.iload_n 3, 1) := by decide +kernel
theorem d_L_law_738 : decode code 738 = .ok (.iconst 1, 1) := by decide +kernel
theorem d_L_law_739 : decode code 739 = .ok (.iadd, 1) := by decide +kernel
theorem d_L_law_740 : decode code 740 = .ok (.iaload, 1) := by decide +kernel
theorem d_L_law_741 : decode code 741 = .ok (.invokevirtual 101, 3) := by decide +kernel
theorem d_L_law_744 : decode code 744 = .ok (.if_icmp .eq 5, 3) := by decide +kernel
theorem d_L_law_747 : decode code 747 = .ok (.iconst 0, 1) := by decide +kernel
theorem d_L_law_748 : decode code 748 = .ok (.ireturn, 1) := by decide +kernel
theorem d_L_law_749 : decode code 749 = .ok (.iinc 3 5, 3) := by decide +kernel
theorem d_L_law_752 : decode code 752 = .ok (.goto (-704), 3) := by decide +kernel
theorem d_L_law_755 : decode code 755 = .ok (.iconst 1, 1) := by decide +kernel
theorem d_L_law_756 : decode code 756 = .ok (.ireturn, 1) := by decide +kernel
theorem d_JI_bitCount_0 : decode prog_11_method_49_code 0 = .ok (.iload_n 0, 1) := by decide +kernel
theorem d_JI_bitCount_1 : decode prog_11_method_49_code 1 = .ok (.iload_n 0, 1) := by decide +kernel
theorem d_JI_bitCount_2 : decode prog_11_method_49_code 2 = .ok (.iconst 1, 1) := by decide +kernel
theorem d_JI_bitCount_3 : decode prog_11_method_49_code 3 = .ok (.iushr, 1) := by decide +kernel
theorem d_JI_bitCount_4 : decode prog_11_method_49_code 4 = .ok (.ldc_w 265, 3) := by decide +kernel
theorem d_JI_bitCount_7 : decode prog_11_method_49_code 7 = .ok (.iand, 1) := by decide +kernel
theorem d_JI_bitCount_8 : decode prog_11_method_49_code 8 = .ok (.isub, 1) := by decide +kernel
theorem d_JI_bitCount_9 : decode prog_11_method_49_code 9 = .ok (.istore_n 0, 1) := by decide +kernel
theorem d_JI_bitCount_10 : decode prog_11_method_49_code 10 = .ok (.iload_n 0, 1) := by decide +kernel
theorem d_JI_bitCount_11 : decode prog_11_method_49_code 11 = .ok (.ldc_w 266, 3) := by decide +kernel
theorem d_JI_bitCount_14 : decode prog_11_method_49_code 14 = .ok (.iand, 1) := by decide +kernel
theorem d_JI_bitCount_15 : decode prog_11_method_49_code 15 = .ok (.iload_n 0, 1) := by decide +kernel
theorem d_JI_bitCount_16 : decode prog_11_method_49_code 16 = .ok (.iconst 2, 1) := by decide +kernel
theorem d_JI_bitCount_17 : decode prog_11_method_49_code 17 = .ok (.iushr, 1) := by decide +kernel
theorem d_JI_bitCount_18 : decode prog_11_method_49_code 18 = .ok (.ldc_w 266, 3) := by decide +kernel
theorem d_JI_bitCount_21 : decode prog_11_method_49_code 21 = .ok (.iand, 1) := by decide +kernel
theorem d_JI_bitCount_22 : decode prog_11_method_49_code 22 = .ok (.iadd, 1) := by decide +kernel
theorem d_JI_bitCount_23 : decode prog_11_method_49_code 23 = .ok (.istore_n 0, 1) := by decide +kernel
theorem d_JI_bitCount_24 : decode prog_11_method_49_code 24 = .ok (.iload_n 0, 1) := by decide +kernel
theorem d_JI_bitCount_25 : decode prog_11_method_49_code 25 = .ok (.iload_n 0, 1) := by decide +kernel
theorem d_JI_bitCount_26 : decode prog_11_method_49_code 26 = .ok (.iconst 4, 1) := by decide +kernel
theorem d_JI_bitCount_27 : decode prog_11_method_49_code 27 = .ok (.iushr, 1) := by decide +kernel
theorem d_JI_bitCount_28 : decode prog_11_method_49_code 28 = .ok (.iadd, 1) := by decide +kernel
theorem d_JI_bitCount_29 : decode prog_11_method_49_code 29 = .ok (.ldc_w 267, 3) := by decide +kernel
theorem d_JI_bitCount_32 : decode prog_11_method_49_code 32 = .ok (.iand, 1) := by decide +kernel
theorem d_JI_bitCount_33 : decode prog_11_method_49_code 33 = .ok (.istore_n 0, 1) := by decide +kernel
theorem d_JI_bitCount_34 : decode prog_11_method_49_code 34 = .ok (.iload_n 0, 1) := by decide +kernel
theorem d_JI_bitCount_35 : decode prog_11_method_49_code 35 = .ok (.iload_n 0, 1) := by decide +kernel
theorem d_JI_bitCount_36 : decode prog_11_method_49_code 36 = .ok (.bipush 8, 2) := by decide +kernel
theorem d_JI_bitCount_38 : decode prog_11_method_49_code 38 = .ok (.iushr, 1) := by decide +kernel
theorem d_JI_bitCount_39 : decode prog_11_method_49_code 39 = .ok (.iadd, 1) := by decide +kernel
theorem d_JI_bitCount_40 : decode prog_11_method_49_code 40 = .ok (.istore_n 0, 1) := by decide +kernel
theorem d_JI_bitCount_41 : decode prog_11_method_49_code 41 = .ok (.iload_n 0, 1) := by decide +kernel
theorem d_JI_bitCount_42 : decode prog_11_method_49_code 42 = .ok (.iload_n 0, 1) := by decide +kernel
theorem d_JI_bitCount_43 : decode prog_11_method_49_code 43 = .ok (.bipush 16, 2) := by decide +kernel
theorem d_JI_bitCount_45 : decode prog_11_method_49_code 45 = .ok (.iushr, 1) := by decide +kernel
theorem d_JI_bitCount_46 : decode prog_11_method_49_code 46 = .ok (.iadd, 1) := by decide +kernel
theorem d_JI_bitCount_47 : decode prog_11_method_49_code 47 = .ok (.istore_n 0, 1) := by decide +kernel
theorem d_JI_bitCount_48 : decode prog_11_method_49_code 48 = .ok (.iload_n 0, 1) := by decide +kernel
theorem d_JI_bitCount_49 : decode prog_11_method_49_code 49 = .ok (.bipush 63, 2) := by decide +kernel
theorem d_JI_bitCount_51 : decode prog_11_method_49_code 51 = .ok (.iand, 1) := by decide +kernel
theorem d_JI_bitCount_52 : decode prog_11_method_49_code 52 = .ok (.ireturn, 1) := by decide +kernel
