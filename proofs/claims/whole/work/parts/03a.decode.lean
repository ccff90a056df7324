theorem dX0_init_0 : decode cX0_init 0 = .ok (.aload_n 0, 1) := by decide +kernel
theorem dX0_init_1 : decode cX0_init 1 = .ok (.invokespecial 3, 3) := by decide +kernel
theorem dX0_init_4 : decode cX0_init 4 = .ok (.aload_n 0, 1) := by decide +kernel
theorem dX0_init_5 : decode cX0_init 5 = .ok (.bipush 16, 2) := by decide +kernel
theorem dX0_init_7 : decode cX0_init 7 = .ok (.newarray .int, 2) := by decide +kernel
theorem dX0_init_9 : decode cX0_init 9 = .ok (.putfield 9, 3) := by decide +kernel
theorem dX0_init_12 : decode cX0_init 12 = .ok (.return_, 1) := by decide +kernel
theorem dX0_begin_0 : decode cX0_begin 0 = .ok (.aload_n 0, 1) := by decide +kernel
theorem dX0_begin_1 : decode cX0_begin 1 = .ok (.iconst 0, 1) := by decide +kernel
theorem dX0_begin_2 : decode cX0_begin 2 = .ok (.putfield 15, 3) := by decide +kernel
theorem dX0_begin_5 : decode cX0_begin 5 = .ok (.aload_n 1, 1) := by decide +kernel
theorem dX0_begin_6 : decode cX0_begin 6 = .ok (.iload_n 2, 1) := by decide +kernel
theorem dX0_begin_7 : decode cX0_begin 7 = .ok (.invokevirtual 19, 3) := by decide +kernel
theorem dX0_begin_10 : decode cX0_begin 10 = .ok (.ifCond .eq 44, 3) := by decide +kernel
theorem dX0_begin_13 : decode cX0_begin 13 = .ok (.aload_n 0, 1) := by decide +kernel
theorem dX0_begin_14 : decode cX0_begin 14 = .ok (.iload_n 2, 1) := by decide +kernel
theorem dX0_begin_15 : decode cX0_begin 15 = .ok (.putfield 25, 3) := by decide +kernel
theorem dX0_begin_18 : decode cX0_begin 18 = .ok (.aload_n 0, 1) := by decide +kernel
theorem dX0_begin_19 : decode cX0_begin 19 = .ok (.aload_n 1, 1) := by decide +kernel
theorem dX0_begin_20 : decode cX0_begin 20 = .ok (.getfield 28, 3) := by decide +kernel
theorem dX0_begin_23 : decode cX0_begin 23 = .ok (.iload_n 2, 1) := by decide +kernel
theorem dX0_begin_24 : decode cX0_begin 24 = .ok (.iaload, 1) := by decide +kernel
theorem dX0_begin_25 : decode cX0_begin 25 = .ok (.putfield 31, 3) := by decide +kernel
theorem dX0_begin_28 : decode cX0_begin 28 = .ok (.aload_n 0, 1) := by decide +kernel
theorem dX0_begin_29 : decode cX0_begin 29 = .ok (.aload_n 1, 1) := by decide +kernel
theorem dX0_begin_30 : decode cX0_begin 30 = .ok (.getfield 34, 3) := by decide +kernel
theorem dX0_begin_33 : decode cX0_begin 33 = .ok (.iload_n 2, 1) := by decide +kernel
theorem dX0_begin_34 : decode cX0_begin 34 = .ok (.iaload, 1) := by decide +kernel
theorem dX0_begin_35 : decode cX0_begin 35 = .ok (.putfield 37, 3) := by decide +kernel
theorem dX0_begin_38 : decode cX0_begin 38 = .ok (.aload_n 0, 1) := by decide +kernel
theorem dX0_begin_39 : decode cX0_begin 39 = .ok (.aload_n 1, 1) := by decide +kernel
theorem dX0_begin_40 : decode cX0_begin 40 = .ok (.iload_n 2, 1) := by decide +kernel
theorem dX0_begin_41 : decode cX0_begin 41 = .ok (.aload_n 1, 1) := by decide +kernel
theorem dX0_begin_42 : decode cX0_begin 42 = .ok (.getfield 40, 3) := by decide +kernel
theorem dX0_begin_45 : decode cX0_begin 45 = .ok (.invokevirtual 43, 3) := by decide +kernel
theorem dX0_begin_48 : decode cX0_begin 48 = .ok (.invokestatic 47, 3) := by decide +kernel
theorem dX0_begin_51 : decode cX0_begin 51 = .ok (.putfield 53, 3) := by decide +kernel
theorem dX0_begin_54 : decode cX0_begin 54 = .ok (.return_, 1) := by decide +kernel
theorem dX0_askSize_0 : decode cX0_askSize 0 = .ok (.iload_n 1, 1) := by decide +kernel
theorem dX0_askSize_1 : decode cX0_askSize 1 = .ok (.iconst 1, 1) := by decide +kernel
theorem dX0_askSize_2 : decode cX0_askSize 2 = .ok (.if_icmp .le 5, 3) := by decide +kernel
theorem dX0_askSize_5 : decode cX0_askSize 5 = .ok (.lconst 0, 1) := by decide +kernel
theorem dX0_askSize_6 : decode cX0_askSize 6 = .ok (.lreturn, 1) := by decide +kernel
theorem dX0_askSize_7 : decode cX0_askSize 7 = .ok (.aload_n 0, 1) := by decide +kernel
theorem dX0_askSize_8 : decode cX0_askSize 8 = .ok (.getfield 31, 3) := by decide +kernel
theorem dX0_askSize_11 : decode cX0_askSize 11 = .ok (.tableswitch 58 2 7 #[37, 58, 58, 43, 48, 53], 37) := by decide +kernel
theorem dX0_askSize_48 : decode cX0_askSize 48 = .ok (.aload_n 0, 1) := by decide +kernel
theorem dX0_askSize_49 : decode cX0_askSize 49 = .ok (.iload_n 1, 1) := by decide +kernel
theorem dX0_askSize_50 : decode cX0_askSize 50 = .ok (.invokevirtual 56, 3) := by decide +kernel
theorem dX0_askSize_53 : decode cX0_askSize 53 = .ok (.lreturn, 1) := by decide +kernel
theorem dX0_askSize_54 : decode cX0_askSize 54 = .ok (.aload_n 0, 1) := by decide +kernel
theorem dX0_askSize_55 : decode cX0_askSize 55 = .ok (.invokevirtual 60, 3) := by decide +kernel
theorem dX0_askSize_58 : decode cX0_askSize 58 = .ok (.lreturn, 1) := by decide +kernel
theorem dX0_askSize_59 : decode cX0_askSize 59 = .ok (.aload_n 0, 1) := by decide +kernel
theorem dX0_askSize_60 : decode cX0_askSize 60 = .ok (.invokevirtual 64, 3) := by decide +kernel
theorem dX0_askSize_63 : decode cX0_askSize 63 = .ok (.lreturn, 1) := by decide +kernel
theorem dX0_askSize_64 : decode cX0_askSize 64 = .ok (.aload_n 0, 1) := by decide +kernel
theorem dX0_askSize_65 : decode cX0_askSize 65 = .ok (.invokevirtual 67, 3) := by decide +kernel
theorem dX0_askSize_68 : decode cX0_askSize 68 = .ok (.lreturn, 1) := by decide +kernel
theorem dX0_askSize_69 : decode cX0_askSize 69 = .ok (.aload_n 0, 1) := by decide +kernel
theorem dX0_askSize_70 : decode cX0_askSize 70 = .ok (.invokevirtual 70, 3) := by decide +kernel
theorem dX0_askSize_73 : decode cX0_askSize 73 = .ok (.lreturn, 1) := by decide +kernel
theorem dX0_askMark_0 : decode cX0_askMark 0 = .ok (.iload_n 1, 1) := by decide +kernel
theorem dX0_askMark_1 : decode cX0_askMark 1 = .ok (.iconst 1, 1) := by decide +kernel
theorem dX0_askMark_2 : decode cX0_askMark 2 = .ok (.if_icmp .le 5, 3) := by decide +kernel
theorem dX0_askMark_5 : decode cX0_askMark 5 = .ok (.lconst 0, 1) := by decide +kernel
theorem dX0_askMark_6 : decode cX0_askMark 6 = .ok (.lreturn, 1) := by decide +kernel
theorem dX0_askMark_7 : decode cX0_askMark 7 = .ok (.aload_n 0, 1) := by decide +kernel
theorem dX0_askMark_8 : decode cX0_askMark 8 = .ok (.getfield 31, 3) := by decide +kernel
theorem dX0_askMark_11 : decode cX0_askMark 11 = .ok (.tableswitch 56 3 7 #[33, 39, 45, 56, 51], 33) := by decide +kernel
theorem dX0_askMark_44 : decode cX0_askMark 44 = .ok (.aload_n 0, 1) := by decide +kernel
theorem dX0_askMark_45 : decode cX0_askMark 45 = .ok (.iload_n 1, 1) := by decide +kernel
theorem dX0_askMark_46 : decode cX0_askMark 46 = .ok (.invokevirtual 73, 3) := by decide +kernel
theorem dX0_askMark_49 : decode cX0_askMark 49 = .ok (.lreturn, 1) := by decide +kernel
theorem dX0_askMark_50 : decode cX0_askMark 50 = .ok (.aload_n 0, 1) := by decide +kernel
theorem dX0_askMark_51 : decode cX0_askMark 51 = .ok (.iload_n 1, 1) := by decide +kernel
theorem dX0_askMark_52 : decode cX0_askMark 52 = .ok (.invokevirtual 76, 3) := by decide +kernel
theorem dX0_askMark_55 : decode cX0_askMark 55 = .ok (.lreturn, 1) := by decide +kernel
theorem dX0_askMark_56 : decode cX0_askMark 56 = .ok (.aload_n 0, 1) := by decide +kernel
theorem dX0_askMark_57 : decode cX0_askMark 57 = .ok (.iload_n 1, 1) := by decide +kernel
theorem dX0_askMark_58 : decode cX0_askMark 58 = .ok (.invokevirtual 79, 3) := by decide +kernel
theorem dX0_askMark_61 : decode cX0_askMark 61 = .ok (.lreturn, 1) := by decide +kernel
theorem dX0_askMark_62 : decode cX0_askMark 62 = .ok (.aload_n 0, 1) := by decide +kernel
theorem dX0_askMark_63 : decode cX0_askMark 63 = .ok (.invokevirtual 82, 3) := by decide +kernel
theorem dX0_askMark_66 : decode cX0_askMark 66 = .ok (.lreturn, 1) := by decide +kernel
theorem dX0_askMark_67 : decode cX0_askMark 67 = .ok (.aload_n 0, 1) := by decide +kernel
theorem dX0_askMark_68 : decode cX0_askMark 68 = .ok (.invokevirtual 85, 3) := by decide +kernel
theorem dX0_askMark_71 : decode cX0_askMark 71 = .ok (.lreturn, 1) := by decide +kernel
theorem dX0_write_0 : decode cX0_write 0 = .ok (.aload_n 0, 1) := by decide +kernel
theorem dX0_write_1 : decode cX0_write 1 = .ok (.getfield 15, 3) := by decide +kernel
theorem dX0_write_4 : decode cX0_write 4 = .ok (.bipush 16, 2) := by decide +kernel
theorem dX0_write_6 : decode cX0_write 6 = .ok (.if_icmp .ge 23, 3) := by decide +kernel
theorem dX0_write_9 : decode cX0_write 9 = .ok (.aload_n 0, 1) := by decide +kernel
theorem dX0_write_10 : decode cX0_write 10 = .ok (.getfield 9, 3) := by decide +kernel
theorem dX0_write_13 : decode cX0_write 13 = .ok (.aload_n 0, 1) := by decide +kernel
theorem dX0_write_14 : decode cX0_write 14 = .ok (.getfield 15, 3) := by decide +kernel
theorem dX0_write_17 : decode cX0_write 17 = .ok (.iload_n 1, 1) := by decide +kernel
theorem dX0_write_18 : decode cX0_write 18 = .ok (.iastore, 1) := by decide +kernel
theorem dX0_write_19 : decode cX0_write 19 = .ok (.aload_n 0, 1) := by decide +kernel
theorem dX0_write_20 : decode cX0_write 20 = .ok (.dup, 1) := by decide +kernel
theorem dX0_write_21 : decode cX0_write 21 = .ok (.getfield 15, 3) := by decide +kernel
theorem dX0_write_24 : decode cX0_write 24 = .ok (.iconst 1, 1) := by decide +kernel
theorem dX0_write_25 : decode cX0_write 25 = .ok (.iadd, 1) := by decide +kernel
theorem dX0_write_26 : decode cX0_write 26 = .ok (.putfield 15, 3) := by decide +kernel
theorem dX0_write_29 : decode cX0_write 29 = .ok (.return_, 1) := by decide +kernel
theorem dX0_body10_0 : decode cX0_body10 0 = .ok (.aload_n 0, 1) := by decide +kernel
theorem dX0_body10_1 : decode cX0_body10 1 = .ok (.bipush 10, 2) := by decide +kernel
theorem dX0_body10_3 : decode cX0_body10 3 = .ok (.invokevirtual 88, 3) := by decide +kernel
theorem dX0_body10_6 : decode cX0_body10 6 = .ok (.aload_n 0, 1) := by decide +kernel
theorem dX0_body10_7 : decode cX0_body10 7 = .ok (.getfield 37, 3) := by decide +kernel
theorem dX0_body10_10 : decode cX0_body10 10 = .ok (.i2l, 1) := by decide +kernel
theorem dX0_body10_11 : decode cX0_body10 11 = .ok (.lreturn, 1) := by decide +kernel
theorem dX0_body11_0 : decode cX0_body11 0 = .ok (.aload_n 0, 1) := by decide +kernel
theorem dX0_body11_1 : decode cX0_body11 1 = .ok (.bipush 11, 2) := by decide +kernel
theorem dX0_body11_3 : decode cX0_body11 3 = .ok (.invokevirtual 88, 3) := by decide +kernel
theorem dX0_body11_6 : decode cX0_body11 6 = .ok (.aload_n 0, 1) := by decide +kernel
theorem dX0_body11_7 : decode cX0_body11 7 = .ok (.invokevirtual 70, 3) := by decide +kernel
theorem dX0_body11_10 : decode cX0_body11 10 = .ok (.aload_n 0, 1) := by decide +kernel
theorem dX0_body11_11 : decode cX0_body11 11 = .ok (.iload_n 1, 1) := by decide +kernel
theorem dX0_body11_12 : decode cX0_body11 12 = .ok (.iconst 1, 1) := by decide +kernel
theorem dX0_body11_13 : decode cX0_body11 13 = .ok (.iadd, 1) := by decide +kernel
theorem dX0_body11_14 : decode cX0_body11 14 = .ok (.invokevirtual 92, 3) := by decide +kernel
theorem dX0_body11_17 : decode cX0_body11 17 = .ok (.ladd, 1) := by decide +kernel
theorem dX0_body11_18 : decode cX0_body11 18 = .ok (.lreturn, 1) := by decide +kernel
theorem dX0_body12_0 : decode cX0_body12 0 = .ok (.aload_n 0, 1) := by decide +kernel
theorem dX0_body12_1 : decode cX0_body12 1 = .ok (.bipush 12, 2) := by decide +kernel
theorem dX0_body12_3 : decode cX0_body12 3 = .ok (.invokevirtual 88, 3) := by decide +kernel
theorem dX0_body12_6 : decode cX0_body12 6 = .ok (.ldc2_w 95, 3) := by decide +kernel
theorem dX0_body12_9 : decode cX0_body12 9 = .ok (.aload_n 0, 1) := by decide +kernel
theorem dX0_body12_10 : decode cX0_body12 10 = .ok (.invokevirtual 70, 3) := by decide +kernel
theorem dX0_body12_13 : decode cX0_body12 13 = .ok (.lmul, 1) := by decide +kernel
theorem dX0_body12_14 : decode cX0_body12 14 = .ok (.lreturn, 1) := by decide +kernel
theorem dX0_body13_0 : decode cX0_body13 0 = .ok (.aload_n 0, 1) := by decide +kernel
theorem dX0_body13_1 : decode cX0_body13 1 = .ok (.bipush 13, 2) := by decide +kernel
theorem dX0_body13_3 : decode cX0_body13 3 = .ok (.invokevirtual 88, 3) := by decide +kernel
theorem dX0_body13_6 : decode cX0_body13 6 = .ok (.aload_n 0, 1) := by decide +kernel
theorem dX0_body13_7 : decode cX0_body13 7 = .ok (.invokevirtual 70, 3) := by decide +kernel
theorem dX0_body13_10 : decode cX0_body13 10 = .ok (.lconst 1, 1) := by decide +kernel
theorem dX0_body13_11 : decode cX0_body13 11 = .ok (.ladd, 1) := by decide +kernel
theorem dX0_body13_12 : decode cX0_body13 12 = .ok (.lreturn, 1) := by decide +kernel
theorem dX0_body14_0 : decode cX0_body14 0 = .ok (.aload_n 0, 1) := by decide +kernel
theorem dX0_body14_1 : decode cX0_body14 1 = .ok (.bipush 14, 2) := by decide +kernel
theorem dX0_body14_3 : decode cX0_body14 3 = .ok (.invokevirtual 88, 3) := by decide +kernel
theorem dX0_body14_6 : decode cX0_body14 6 = .ok (.lconst 0, 1) := by decide +kernel
theorem dX0_body14_7 : decode cX0_body14 7 = .ok (.aload_n 0, 1) := by decide +kernel
theorem dX0_body14_8 : decode cX0_body14 8 = .ok (.invokevirtual 64, 3) := by decide +kernel
theorem dX0_body14_11 : decode cX0_body14 11 = .ok (.lsub, 1) := by decide +kernel
theorem dX0_body14_12 : decode cX0_body14 12 = .ok (.lreturn, 1) := by decide +kernel
theorem dX0_body20_0 : decode cX0_body20 0 = .ok (.aload_n 0, 1) := by decide +kernel
theorem dX0_body20_1 : decode cX0_body20 1 = .ok (.bipush 20, 2) := by decide +kernel
theorem dX0_body20_3 : decode cX0_body20 3 = .ok (.invokevirtual 88, 3) := by decide +kernel
theorem dX0_body20_6 : decode cX0_body20 6 = .ok (.aload_n 0, 1) := by decide +kernel
theorem dX0_body20_7 : decode cX0_body20 7 = .ok (.getfield 25, 3) := by decide +kernel
theorem dX0_body20_10 : decode cX0_body20 10 = .ok (.i2l, 1) := by decide +kernel
theorem dX0_body20_11 : decode cX0_body20 11 = .ok (.lreturn, 1) := by decide +kernel
theorem dX0_body21_0 : decode cX0_body21 0 = .ok (.aload_n 0, 1) := by decide +kernel
theorem dX0_body21_1 : decode cX0_body21 1 = .ok (.bipush 21, 2) := by decide +kernel
theorem dX0_body21_3 : decode cX0_body21 3 = .ok (.invokevirtual 88, 3) := by decide +kernel
theorem dX0_body21_6 : decode cX0_body21 6 = .ok (.aload_n 0, 1) := by decide +kernel
theorem dX0_body21_7 : decode cX0_body21 7 = .ok (.invokevirtual 85, 3) := by decide +kernel
theorem dX0_body21_10 : decode cX0_body21 10 = .ok (.aload_n 0, 1) := by decide +kernel
theorem dX0_body21_11 : decode cX0_body21 11 = .ok (.iload_n 1, 1) := by decide +kernel
theorem dX0_body21_12 : decode cX0_body21 12 = .ok (.iconst 1, 1) := by decide +kernel
theorem dX0_body21_13 : decode cX0_body21 13 = .ok (.iadd, 1) := by decide +kernel
theorem dX0_body21_14 : decode cX0_body21 14 = .ok (.invokevirtual 97, 3) := by decide +kernel
theorem dX0_body21_17 : decode cX0_body21 17 = .ok (.ladd, 1) := by decide +kernel
theorem dX0_body21_18 : decode cX0_body21 18 = .ok (.lreturn, 1) := by decide +kernel
theorem dX0_body22_0 : decode cX0_body22 0 = .ok (.aload_n 0, 1) := by decide +kernel
theorem dX0_body22_1 : decode cX0_body22 1 = .ok (.bipush 22, 2) := by decide +kernel
theorem dX0_body22_3 : decode cX0_body22 3 = .ok (.invokevirtual 88, 3) := by decide +kernel
theorem dX0_body22_6 : decode cX0_body22 6 = .ok (.aload_n 0, 1) := by decide +kernel
theorem dX0_body22_7 : decode cX0_body22 7 = .ok (.iload_n 1, 1) := by decide +kernel
theorem dX0_body22_8 : decode cX0_body22 8 = .ok (.invokevirtual 76, 3) := by decide +kernel
theorem dX0_body22_11 : decode cX0_body22 11 = .ok (.ldc2_w 100, 3) := by decide +kernel
theorem dX0_body22_14 : decode cX0_body22 14 = .ok (.ladd, 1) := by decide +kernel
theorem dX0_body22_15 : decode cX0_body22 15 = .ok (.lreturn, 1) := by decide +kernel
theorem dX0_body23_0 : decode cX0_body23 0 = .ok (.aload_n 0, 1) := by decide +kernel
theorem dX0_body23_1 : decode cX0_body23 1 = .ok (.bipush 23, 2) := by decide +kernel
theorem dX0_body23_3 : decode cX0_body23 3 = .ok (.invokevirtual 88, 3) := by decide +kernel
theorem dX0_body23_6 : decode cX0_body23 6 = .ok (.aload_n 0, 1) := by decide +kernel
theorem dX0_body23_7 : decode cX0_body23 7 = .ok (.invokevirtual 85, 3) := by decide +kernel
theorem dX0_body23_10 : decode cX0_body23 10 = .ok (.aload_n 0, 1) := by decide +kernel
theorem dX0_body23_11 : decode cX0_body23 11 = .ok (.getfield 53, 3) := by decide +kernel
theorem dX0_body23_14 : decode cX0_body23 14 = .ok (.i2l, 1) := by decide +kernel
theorem dX0_body23_15 : decode cX0_body23 15 = .ok (.ladd, 1) := by decide +kernel
theorem dX0_body23_16 : decode cX0_body23 16 = .ok (.lreturn, 1) := by decide +kernel
theorem dX0_body24_0 : decode cX0_body24 0 = .ok (.aload_n 0, 1) := by decide +kernel
theorem dX0_body24_1 : decode cX0_body24 1 = .ok (.bipush 24, 2) := by decide +kernel
theorem dX0_body24_3 : decode cX0_body24 3 = .ok (.invokevirtual 88, 3) := by decide +kernel
theorem dX0_body24_6 : decode cX0_body24 6 = .ok (.aload_n 0, 1) := by decide +kernel
theorem dX0_body24_7 : decode cX0_body24 7 = .ok (.invokevirtual 85, 3) := by decide +kernel
theorem dX0_body24_10 : decode cX0_body24 10 = .ok (.aload_n 0, 1) := by decide +kernel
theorem dX0_body24_11 : decode cX0_body24 11 = .ok (.iload_n 1, 1) := by decide +kernel
theorem dX0_body24_12 : decode cX0_body24 12 = .ok (.iconst 1, 1) := by decide +kernel
theorem dX0_body24_13 : decode cX0_body24 13 = .ok (.iadd, 1) := by decide +kernel
theorem dX0_body24_14 : decode cX0_body24 14 = .ok (.invokevirtual 97, 3) := by decide +kernel
theorem dX0_body24_17 : decode cX0_body24 17 = .ok (.lsub, 1) := by decide +kernel
theorem dX0_body24_18 : decode cX0_body24 18 = .ok (.lreturn, 1) := by decide +kernel
theorem dX1_init_0 : decode cX1_init 0 = .ok (.aload_n 0, 1) := by decide +kernel
theorem dX1_init_1 : decode cX1_init 1 = .ok (.invokespecial 3, 3) := by decide +kernel
theorem dX1_init_4 : decode cX1_init 4 = .ok (.aload_n 0, 1) := by decide +kernel
theorem dX1_init_5 : decode cX1_init 5 = .ok (.bipush 10, 2) := by decide +kernel
theorem dX1_init_7 : decode cX1_init 7 = .ok (.newarray .int, 2) := by decide +kernel
theorem dX1_init_9 : decode cX1_init 9 = .ok (.putfield 9, 3) := by decide +kernel
theorem dX1_init_12 : decode cX1_init 12 = .ok (.aload_n 0, 1) := by decide +kernel
theorem dX1_init_13 : decode cX1_init 13 = .ok (.bipush 10, 2) := by decide +kernel
theorem dX1_init_15 : decode cX1_init 15 = .ok (.newarray .int, 2) := by decide +kernel
theorem dX1_init_17 : decode cX1_init 17 = .ok (.putfield 15, 3) := by decide +kernel
theorem dX1_init_20 : decode cX1_init 20 = .ok (.aload_n 0, 1) := by decide +kernel
theorem dX1_init_21 : decode cX1_init 21 = .ok (.bipush 6, 2) := by decide +kernel
theorem dX1_init_23 : decode cX1_init 23 = .ok (.newarray .int, 2) := by decide +kernel
theorem dX1_init_25 : decode cX1_init 25 = .ok (.putfield 18, 3) := by decide +kernel
theorem dX1_init_28 : decode cX1_init 28 = .ok (.aload_n 0, 1) := by decide +kernel
theorem dX1_init_29 : decode cX1_init 29 = .ok (.bipush 6, 2) := by decide +kernel
theorem dX1_init_31 : decode cX1_init 31 = .ok (.newarray .int, 2) := by decide +kernel
theorem dX1_init_33 : decode cX1_init 33 = .ok (.putfield 21, 3) := by decide +kernel
theorem dX1_init_36 : decode cX1_init 36 = .ok (.aload_n 0, 1) := by decide +kernel
theorem dX1_init_37 : decode cX1_init 37 = .ok (.bipush 6, 2) := by decide +kernel
theorem dX1_init_39 : decode cX1_init 39 = .ok (.newarray .int, 2) := by decide +kernel
theorem dX1_init_41 : decode cX1_init 41 = .ok (.putfield 24, 3) := by decide +kernel
theorem dX1_init_44 : decode cX1_init 44 = .ok (.return_, 1) := by decide +kernel
theorem dX1_clear_0 : decode cX1_clear 0 = .ok (.aload_n 0, 1) := by decide +kernel
theorem dX1_clear_1 : decode cX1_clear 1 = .ok (.iconst 0, 1) := by decide +kernel
theorem dX1_clear_2 : decode cX1_clear 2 = .ok (.putfield 27, 3) := by decide +kernel
theorem dX1_clear_5 : decode cX1_clear 5 = .ok (.aload_n 0, 1) := by decide +kernel
theorem dX1_clear_6 : decode cX1_clear 6 = .ok (.iconst 0, 1) := by decide +kernel
theorem dX1_clear_7 : decode cX1_clear 7 = .ok (.putfield 31, 3) := by decide +kernel
theorem dX1_clear_10 : decode cX1_clear 10 = .ok (.return_, 1) := by decide +kernel
theorem dX1_become_0 : decode cX1_become 0 = .ok (.aload_n 0, 1) := by decide +kernel
theorem dX1_become_1 : decode cX1_become 1 = .ok (.aload_n 1, 1) := by decide +kernel
theorem dX1_become_2 : decode cX1_become 2 = .ok (.getfield 27, 3) := by decide +kernel
theorem dX1_become_5 : decode cX1_become 5 = .ok (.putfield 27, 3) := by decide +kernel
theorem dX1_become_8 : decode cX1_become 8 = .ok (.aload_n 0, 1) := by decide +kernel
theorem dX1_become_9 : decode cX1_become 9 = .ok (.aload_n 1, 1) := by decide +kernel
theorem dX1_become_10 : decode cX1_become 10 = .ok (.getfield 31, 3) := by decide +kernel
theorem dX1_become_13 : decode cX1_become 13 = .ok (.putfield 31, 3) := by decide +kernel
theorem dX1_become_16 : decode cX1_become 16 = .ok (.aload_n 1, 1) := by decide +kernel
theorem dX1_become_17 : decode cX1_become 17 = .ok (.getfield 9, 3) := by decide +kernel
theorem dX1_become_20 : decode cX1_become 20 = .ok (.iconst 0, 1) := by decide +kernel
theorem dX1_become_21 : decode cX1_become 21 = .ok (.aload_n 0, 1) := by decide +kernel
theorem dX1_become_22 : decode cX1_become 22 = .ok (.getfield 9, 3) := by decide +kernel
theorem dX1_become_25 : decode cX1_become 25 = .ok (.iconst 0, 1) := by decide +kernel
theorem dX1_become_26 : decode cX1_become 26 = .ok (.bipush 10, 2) := by decide +kernel
theorem dX1_become_28 : decode cX1_become 28 = .ok (.invokestatic 34, 3) := by decide +kernel
theorem dX1_become_31 : decode cX1_become 31 = .ok (.aload_n 1, 1) := by decide +kernel
theorem dX1_become_32 : decode cX1_become 32 = .ok (.getfield 15, 3) := by decide +kernel
theorem dX1_become_35 : decode cX1_become 35 = .ok (.iconst 0, 1) := by decide +kernel
theorem dX1_become_36 : decode cX1_become 36 = .ok (.aload_n 0, 1) := by decide +kernel
theorem dX1_become_37 : decode cX1_become 37 = .ok (.getfield 15, 3) := by decide +kernel
theorem dX1_become_40 : decode cX1_become 40 = .ok (.iconst 0, 1) := by decide +kernel
theorem dX1_become_41 : decode cX1_become 41 = .ok (.bipush 10, 2) := by decide +kernel
theorem dX1_become_43 : decode cX1_become 43 = .ok (.invokestatic 34, 3) := by decide +kernel
theorem dX1_become_46 : decode cX1_become 46 = .ok (.aload_n 1, 1) := by decide +kernel
theorem dX1_become_47 : decode cX1_become 47 = .ok (.getfield 18, 3) := by decide +kernel
theorem dX1_become_50 : decode cX1_become 50 = .ok (.iconst 0, 1) := by decide +kernel
theorem dX1_become_51 : decode cX1_become 51 = .ok (.aload_n 0, 1) := by decide +kernel
theorem dX1_become_52 : decode cX1_become 52 = .ok (.getfield 18, 3) := by decide +kernel
theorem dX1_become_55 : decode cX1_become 55 = .ok (.iconst 0, 1) := by decide +kernel
theorem dX1_become_56 : decode cX1_become 56 = .ok (.bipush 6, 2) := by decide +kernel
theorem dX1_become_58 : decode cX1_become 58 = .ok (.invokestatic 34, 3) := by decide +kernel
theorem dX1_become_61 : decode cX1_become 61 = .ok (.aload_n 1, 1) := by decide +kernel
theorem dX1_become_62 : decode cX1_become 62 = .ok (.getfield 21, 3) := by decide +kernel
theorem dX1_become_65 : decode cX1_become 65 = .ok (.iconst 0, 1) := by decide +kernel
theorem dX1_become_66 : decode cX1_become 66 = .ok (.aload_n 0, 1) := by decide +kernel
theorem dX1_become_67 : decode cX1_become 67 = .ok (.getfield 21, 3) := by decide +kernel
theorem dX1_become_70 : decode cX1_become 70 = .ok (.iconst 0, 1) := by decide +kernel
theorem dX1_become_71 : decode cX1_become 71 = .ok (.bipush 6, 2) := by decide +kernel
theorem dX1_become_73 : decode cX1_become 73 = .ok (.invokestatic 34, 3) := by decide +kernel
theorem dX1_become_76 : decode cX1_become 76 = .ok (.aload_n 1, 1) := by decide +kernel
theorem dX1_become_77 : decode cX1_become 77 = .ok (.getfield 24, 3) := by decide +kernel
theorem dX1_become_80 : decode cX1_become 80 = .ok (.iconst 0, 1) := by decide +kernel
theorem dX1_become_81 : decode cX1_become 81 = .ok (.aload_n 0, 1) := by decide +kernel
theorem dX1_become_82 : decode cX1_become 82 = .ok (.getfield 24, 3) := by decide +kernel
theorem dX1_become_85 : decode cX1_become 85 = .ok (.iconst 0, 1) := by decide +kernel
theorem dX1_become_86 : decode cX1_become 86 = .ok (.bipush 6, 2) := by decide +kernel
theorem dX1_become_88 : decode cX1_become 88 = .ok (.invokestatic 34, 3) := by decide +kernel
theorem dX1_become_91 : decode cX1_become 91 = .ok (.return_, 1) := by decide +kernel
theorem dX1_addSign_0 : decode cX1_addSign 0 = .ok (.aload_n 0, 1) := by decide +kernel
theorem dX1_addSign_1 : decode cX1_addSign 1 = .ok (.getfield 27, 3) := by decide +kernel
theorem dX1_addSign_4 : decode cX1_addSign 4 = .ok (.bipush 10, 2) := by decide +kernel
theorem dX1_addSign_6 : decode cX1_addSign 6 = .ok (.if_icmp .ge 33, 3) := by decide +kernel
theorem dX1_addSign_9 : decode cX1_addSign 9 = .ok (.aload_n 0, 1) := by decide +kernel
theorem dX1_addSign_10 : decode cX1_addSign 10 = .ok (.getfield 9, 3) := by decide +kernel
theorem dX1_addSign_13 : decode cX1_addSign 13 = .ok (.aload_n 0, 1) := by decide +kernel
theorem dX1_addSign_14 : decode cX1_addSign 14 = .ok (.getfield 27, 3) := by decide +kernel
theorem dX1_addSign_17 : decode cX1_addSign 17 = .ok (.iload_n 1, 1) := by decide +kernel
theorem dX1_addSign_18 : decode cX1_addSign 18 = .ok (.iastore, 1) := by decide +kernel
theorem dX1_addSign_19 : decode cX1_addSign 19 = .ok (.aload_n 0, 1) := by decide +kernel
theorem dX1_addSign_20 : decode cX1_addSign 20 = .ok (.getfield 15, 3) := by decide +kernel
theorem dX1_addSign_23 : decode cX1_addSign 23 = .ok (.aload_n 0, 1) := by decide +kernel
theorem dX1_addSign_24 : decode cX1_addSign 24 = .ok (.getfield 27, 3) := by decide +kernel
theorem dX1_addSign_27 : decode cX1_addSign 27 = .ok (.iload_n 2, 1) := by decide +kernel
theorem dX1_addSign_28 : decode cX1_addSign 28 = .ok (.iastore, 1) := by decide +kernel
theorem dX1_addSign_29 : decode cX1_addSign 29 = .ok (.aload_n 0, 1) := by decide +kernel
theorem dX1_addSign_30 : decode cX1_addSign 30 = .ok (.dup, 1) := by decide +kernel
theorem dX1_addSign_31 : decode cX1_addSign 31 = .ok (.getfield 27, 3) := by decide +kernel
theorem dX1_addSign_34 : decode cX1_addSign 34 = .ok (.iconst 1, 1) := by decide +kernel
theorem dX1_addSign_35 : decode cX1_addSign 35 = .ok (.iadd, 1) := by decide +kernel
theorem dX1_addSign_36 : decode cX1_addSign 36 = .ok (.putfield 27, 3) := by decide +kernel
theorem dX1_addSign_39 : decode cX1_addSign 39 = .ok (.return_, 1) := by decide +kernel
theorem dX1_addStory_0 : decode cX1_addStory 0 = .ok (.aload_n 0, 1) := by decide +kernel
theorem dX1_addStory_1 : decode cX1_addStory 1 = .ok (.getfield 31, 3) := by decide +kernel
theorem dX1_addStory_4 : decode cX1_addStory 4 = .ok (.bipush 6, 2) := by decide +kernel
theorem dX1_addStory_6 : decode cX1_addStory 6 = .ok (.if_icmp .ge 43, 3) := by decide +kernel
theorem dX1_addStory_9 : decode cX1_addStory 9 = .ok (.aload_n 0, 1) := by decide +kernel
theorem dX1_addStory_10 : decode cX1_addStory 10 = .ok (.getfield 24, 3) := by decide +kernel
theorem dX1_addStory_13 : decode cX1_addStory 13 = .ok (.aload_n 0, 1) := by decide +kernel
theorem dX1_addStory_14 : decode cX1_addStory 14 = .ok (.getfield 31, 3) := by decide +kernel
theorem dX1_addStory_17 : decode cX1_addStory 17 = .ok (.iload_n 1, 1) := by decide +kernel
theorem dX1_addStory_18 : decode cX1_addStory 18 = .ok (.iastore, 1) := by decide +kernel
theorem dX1_addStory_19 : decode cX1_addStory 19 = .ok (.aload_n 0, 1) := by decide +kernel
theorem dX1_addStory_20 : decode cX1_addStory 20 = .ok (.getfield 18, 3) := by decide +kernel
theorem dX1_addStory_23 : decode cX1_addStory 23 = .ok (.aload_n 0, 1) := by decide +kernel
theorem dX1_addStory_24 : decode cX1_addStory 24 = .ok (.getfield 31, 3) := by decide +kernel
theorem dX1_addStory_27 : decode cX1_addStory 27 = .ok (.iconst 0, 1) := by decide +kernel
theorem dX1_addStory_28 : decode cX1_addStory 28 = .ok (.iastore, 1) := by decide +kernel
theorem dX1_addStory_29 : decode cX1_addStory 29 = .ok (.aload_n 0, 1) := by decide +kernel
theorem dX1_addStory_30 : decode cX1_addStory 30 = .ok (.getfield 21, 3) := by decide +kernel
theorem dX1_addStory_33 : decode cX1_addStory 33 = .ok (.aload_n 0, 1) := by decide +kernel
theorem dX1_addStory_34 : decode cX1_addStory 34 = .ok (.getfield 31, 3) := by decide +kernel
theorem dX1_addStory_37 : decode cX1_addStory 37 = .ok (.iconst 0, 1) := by decide +kernel
theorem dX1_addStory_38 : decode cX1_addStory 38 = .ok (.iastore, 1) := by decide +kernel
theorem dX1_addStory_39 : decode cX1_addStory 39 = .ok (.aload_n 0, 1) := by decide +kernel
theorem dX1_addStory_40 : decode cX1_addStory 40 = .ok (.dup, 1) := by decide +kernel
theorem dX1_addStory_41 : decode cX1_addStory 41 = .ok (.getfield 31, 3) := by decide +kernel
theorem dX1_addStory_44 : decode cX1_addStory 44 = .ok (.iconst 1, 1) := by decide +kernel
theorem dX1_addStory_45 : decode cX1_addStory 45 = .ok (.iadd, 1) := by decide +kernel
theorem dX1_addStory_46 : decode cX1_addStory 46 = .ok (.putfield 31, 3) := by decide +kernel
theorem dX1_addStory_49 : decode cX1_addStory 49 = .ok (.return_, 1) := by decide +kernel
theorem dX1_tellOfLatest_0 : decode cX1_tellOfLatest 0 = .ok (.aload_n 0, 1) := by decide +kernel
theorem dX1_tellOfLatest_1 : decode cX1_tellOfLatest 1 = .ok (.getfield 31, 3) := by decide +kernel
theorem dX1_tellOfLatest_4 : decode cX1_tellOfLatest 4 = .ok (.ifCond .eq 11, 3) := by decide +kernel
theorem dX1_tellOfLatest_7 : decode cX1_tellOfLatest 7 = .ok (.aload_n 0, 1) := by decide +kernel
theorem dX1_tellOfLatest_8 : decode cX1_tellOfLatest 8 = .ok (.iload_n 1, 1) := by decide +kernel
theorem dX1_tellOfLatest_9 : decode cX1_tellOfLatest 9 = .ok (.invokevirtual 40, 3) := by decide +kernel
theorem dX1_tellOfLatest_12 : decode cX1_tellOfLatest 12 = .ok (.ifCond .ne 4, 3) := by decide +kernel
theorem dX1_tellOfLatest_15 : decode cX1_tellOfLatest 15 = .ok (.return_, 1) := by decide +kernel
theorem dX1_tellOfLatest_16 : decode cX1_tellOfLatest 16 = .ok (.aload_n 0, 1) := by decide +kernel
theorem dX1_tellOfLatest_17 : decode cX1_tellOfLatest 17 = .ok (.getfield 31, 3) := by decide +kernel
theorem dX1_tellOfLatest_20 : decode cX1_tellOfLatest 20 = .ok (.iconst 1, 1) := by decide +kernel
theorem dX1_tellOfLatest_21 : decode cX1_tellOfLatest 21 = .ok (.isub, 1) := by decide +kernel
theorem dX1_tellOfLatest_22 : decode cX1_tellOfLatest 22 = .ok (.istore_n 3, 1) := by decide +kernel
theorem dX1_tellOfLatest_23 : decode cX1_tellOfLatest 23 = .ok (.iconst 1, 1) := by decide +kernel
theorem dX1_tellOfLatest_24 : decode cX1_tellOfLatest 24 = .ok (.iload_n 1, 1) := by decide +kernel
theorem dX1_tellOfLatest_25 : decode cX1_tellOfLatest 25 = .ok (.ishl, 1) := by decide +kernel
theorem dX1_tellOfLatest_26 : decode cX1_tellOfLatest 26 = .ok (.istore 4, 2) := by decide +kernel
theorem dX1_tellOfLatest_28 : decode cX1_tellOfLatest 28 = .ok (.aload_n 0, 1) := by decide +kernel
theorem dX1_tellOfLatest_29 : decode cX1_tellOfLatest 29 = .ok (.getfield 18, 3) := by decide +kernel
theorem dX1_tellOfLatest_32 : decode cX1_tellOfLatest 32 = .ok (.iload_n 3, 1) := by decide +kernel
theorem dX1_tellOfLatest_33 : decode cX1_tellOfLatest 33 = .ok (.iload_n 2, 1) := by decide +kernel
theorem dX1_tellOfLatest_34 : decode cX1_tellOfLatest 34 = .ok (.ifCond .eq 15, 3) := by decide +kernel
theorem dX1_tellOfLatest_37 : decode cX1_tellOfLatest 37 = .ok (.aload_n 0, 1) := by decide +kernel
theorem dX1_tellOfLatest_38 : decode cX1_tellOfLatest 38 = .ok (.getfield 18, 3) := by decide +kernel
theorem dX1_tellOfLatest_41 : decode cX1_tellOfLatest 41 = .ok (.iload_n 3, 1) := by decide +kernel
theorem dX1_tellOfLatest_42 : decode cX1_tellOfLatest 42 = .ok (.iaload, 1) := by decide +kernel
theorem dX1_tellOfLatest_43 : decode cX1_tellOfLatest 43 = .ok (.iload 4, 2) := by decide +kernel
theorem dX1_tellOfLatest_45 : decode cX1_tellOfLatest 45 = .ok (.ior, 1) := by decide +kernel
theorem dX1_tellOfLatest_46 : decode cX1_tellOfLatest 46 = .ok (.goto 14, 3) := by decide +kernel
theorem dX1_tellOfLatest_49 : decode cX1_tellOfLatest 49 = .ok (.aload_n 0, 1) := by decide +kernel
theorem dX1_tellOfLatest_50 : decode cX1_tellOfLatest 50 = .ok (.getfield 18, 3) := by decide +kernel
theorem dX1_tellOfLatest_53 : decode cX1_tellOfLatest 53 = .ok (.iload_n 3, 1) := by decide +kernel
theorem dX1_tellOfLatest_54 : decode cX1_tellOfLatest 54 = .ok (.iaload, 1) := by decide +kernel
theorem dX1_tellOfLatest_55 : decode cX1_tellOfLatest 55 = .ok (.iload 4, 2) := by decide +kernel
theorem dX1_tellOfLatest_57 : decode cX1_tellOfLatest 57 = .ok (.iconst (-1), 1) := by decide +kernel
theorem dX1_tellOfLatest_58 : decode cX1_tellOfLatest 58 = .ok (.ixor, 1) := by decide +kernel
theorem dX1_tellOfLatest_59 : decode cX1_tellOfLatest 59 = .ok (.iand, 1) := by decide +kernel
theorem dX1_tellOfLatest_60 : decode cX1_tellOfLatest 60 = .ok (.iastore, 1) := by decide +kernel
theorem dX1_tellOfLatest_61 : decode cX1_tellOfLatest 61 = .ok (.aload_n 0, 1) := by decide +kernel
theorem dX1_tellOfLatest_62 : decode cX1_tellOfLatest 62 = .ok (.getfield 21, 3) := by decide +kernel
theorem dX1_tellOfLatest_65 : decode cX1_tellOfLatest 65 = .ok (.iload_n 3, 1) := by decide +kernel
theorem dX1_tellOfLatest_66 : decode cX1_tellOfLatest 66 = .ok (.iload_n 2, 1) := by decide +kernel
theorem dX1_tellOfLatest_67 : decode cX1_tellOfLatest 67 = .ok (.ifCond .eq 17, 3) := by decide +kernel
theorem dX1_tellOfLatest_70 : decode cX1_tellOfLatest 70 = .ok (.aload_n 0, 1) := by decide +kernel
theorem dX1_tellOfLatest_71 : decode cX1_tellOfLatest 71 = .ok (.getfield 21, 3) := by decide +kernel
theorem dX1_tellOfLatest_74 : decode cX1_tellOfLatest 74 = .ok (.iload_n 3, 1) := by decide +kernel
theorem dX1_tellOfLatest_75 : decode cX1_tellOfLatest 75 = .ok (.iaload, 1) := by decide +kernel
theorem dX1_tellOfLatest_76 : decode cX1_tellOfLatest 76 = .ok (.iload 4, 2) := by decide +kernel
theorem dX1_tellOfLatest_78 : decode cX1_tellOfLatest 78 = .ok (.iconst (-1), 1) := by decide +kernel
theorem dX1_tellOfLatest_79 : decode cX1_tellOfLatest 79 = .ok (.ixor, 1) := by decide +kernel
theorem dX1_tellOfLatest_80 : decode cX1_tellOfLatest 80 = .ok (.iand, 1) := by decide +kernel
theorem dX1_tellOfLatest_81 : decode cX1_tellOfLatest 81 = .ok (.goto 12, 3) := by decide +kernel
theorem dX1_tellOfLatest_84 : decode cX1_tellOfLatest 84 = .ok (.aload_n 0, 1) := by decide +kernel
theorem dX1_tellOfLatest_85 : decode cX1_tellOfLatest 85 = .ok (.getfield 21, 3) := by decide +kernel
theorem dX1_tellOfLatest_88 : decode cX1_tellOfLatest 88 = .ok (.iload_n 3, 1) := by decide +kernel
theorem dX1_tellOfLatest_89 : decode cX1_tellOfLatest 89 = .ok (.iaload, 1) := by decide +kernel
theorem dX1_tellOfLatest_90 : decode cX1_tellOfLatest 90 = .ok (.iload 4, 2) := by decide +kernel
theorem dX1_tellOfLatest_92 : decode cX1_tellOfLatest 92 = .ok (.ior, 1) := by decide +kernel
theorem dX1_tellOfLatest_93 : decode cX1_tellOfLatest 93 = .ok (.iastore, 1) := by decide +kernel
theorem dX1_tellOfLatest_94 : decode cX1_tellOfLatest 94 = .ok (.return_, 1) := by decide +kernel
theorem dX1_isSign_0 : decode cX1_isSign 0 = .ok (.iload_n 1, 1) := by decide +kernel
theorem dX1_isSign_1 : decode cX1_isSign 1 = .ok (.iconst 0, 1) := by decide +kernel
theorem dX1_isSign_2 : decode cX1_isSign 2 = .ok (.aload_n 0, 1) := by decide +kernel
theorem dX1_isSign_3 : decode cX1_isSign 3 = .ok (.getfield 27, 3) := by decide +kernel
theorem dX1_isSign_6 : decode cX1_isSign 6 = .ok (.iconst 1, 1) := by decide +kernel
theorem dX1_isSign_7 : decode cX1_isSign 7 = .ok (.isub, 1) := by decide +kernel
theorem dX1_isSign_8 : decode cX1_isSign 8 = .ok (.invokestatic 44, 3) := by decide +kernel
theorem dX1_isSign_11 : decode cX1_isSign 11 = .ok (.ireturn, 1) := by decide +kernel
theorem dX1_isStory_0 : decode cX1_isStory 0 = .ok (.iload_n 1, 1) := by decide +kernel
theorem dX1_isStory_1 : decode cX1_isStory 1 = .ok (.iconst 0, 1) := by decide +kernel
theorem dX1_isStory_2 : decode cX1_isStory 2 = .ok (.aload_n 0, 1) := by decide +kernel
theorem dX1_isStory_3 : decode cX1_isStory 3 = .ok (.getfield 31, 3) := by decide +kernel
theorem dX1_isStory_6 : decode cX1_isStory 6 = .ok (.iconst 1, 1) := by decide +kernel
theorem dX1_isStory_7 : decode cX1_isStory 7 = .ok (.isub, 1) := by decide +kernel
theorem dX1_isStory_8 : decode cX1_isStory 8 = .ok (.invokestatic 44, 3) := by decide +kernel
theorem dX1_isStory_11 : decode cX1_isStory 11 = .ok (.ireturn, 1) := by decide +kernel
theorem dX1_isSetOfSigns_0 : decode cX1_isSetOfSigns 0 = .ok (.iload_n 1, 1) := by decide +kernel
theorem dX1_isSetOfSigns_1 : decode cX1_isSetOfSigns 1 = .ok (.iconst 0, 1) := by decide +kernel
theorem dX1_isSetOfSigns_2 : decode cX1_isSetOfSigns 2 = .ok (.iconst 1, 1) := by decide +kernel
theorem dX1_isSetOfSigns_3 : decode cX1_isSetOfSigns 3 = .ok (.aload_n 0, 1) := by decide +kernel
theorem dX1_isSetOfSigns_4 : decode cX1_isSetOfSigns 4 = .ok (.getfield 27, 3) := by decide +kernel
theorem dX1_isSetOfSigns_7 : decode cX1_isSetOfSigns 7 = .ok (.ishl, 1) := by decide +kernel
theorem dX1_isSetOfSigns_8 : decode cX1_isSetOfSigns 8 = .ok (.iconst 1, 1) := by decide +kernel
theorem dX1_isSetOfSigns_9 : decode cX1_isSetOfSigns 9 = .ok (.isub, 1) := by decide +kernel
theorem dX1_isSetOfSigns_10 : decode cX1_isSetOfSigns 10 = .ok (.invokestatic 44, 3) := by decide +kernel
theorem dX1_isSetOfSigns_13 : decode cX1_isSetOfSigns 13 = .ok (.ireturn, 1) := by decide +kernel
theorem dX1_storiesWith_0 : decode cX1_storiesWith 0 = .ok (.iconst 0, 1) := by decide +kernel
theorem dX1_storiesWith_1 : decode cX1_storiesWith 1 = .ok (.istore_n 3, 1) := by decide +kernel
theorem dX1_storiesWith_2 : decode cX1_storiesWith 2 = .ok (.iconst 0, 1) := by decide +kernel
theorem dX1_storiesWith_3 : decode cX1_storiesWith 3 = .ok (.istore 4, 2) := by decide +kernel
theorem dX1_storiesWith_5 : decode cX1_storiesWith 5 = .ok (.iload 4, 2) := by decide +kernel
theorem dX1_storiesWith_7 : decode cX1_storiesWith 7 = .ok (.aload_n 0, 1) := by decide +kernel
theorem dX1_storiesWith_8 : decode cX1_storiesWith 8 = .ok (.getfield 31, 3) := by decide +kernel
theorem dX1_storiesWith_11 : decode cX1_storiesWith 11 = .ok (.if_icmp .ge 34, 3) := by decide +kernel
theorem dX1_storiesWith_14 : decode cX1_storiesWith 14 = .ok (.iload 4, 2) := by decide +kernel
theorem dX1_storiesWith_16 : decode cX1_storiesWith 16 = .ok (.aload_n 2, 1) := by decide +kernel
theorem dX1_storiesWith_17 : decode cX1_storiesWith 17 = .ok (.arraylength, 1) := by decide +kernel
theorem dX1_storiesWith_18 : decode cX1_storiesWith 18 = .ok (.if_icmp .ge 27, 3) := by decide +kernel
theorem dX1_storiesWith_21 : decode cX1_storiesWith 21 = .ok (.iload_n 1, 1) := by decide +kernel
theorem dX1_storiesWith_22 : decode cX1_storiesWith 22 = .ok (.aload_n 2, 1) := by decide +kernel
theorem dX1_storiesWith_23 : decode cX1_storiesWith 23 = .ok (.iload 4, 2) := by decide +kernel
theorem dX1_storiesWith_25 : decode cX1_storiesWith 25 = .ok (.iaload, 1) := by decide +kernel
theorem dX1_storiesWith_26 : decode cX1_storiesWith 26 = .ok (.invokestatic 48, 3) := by decide +kernel
theorem dX1_storiesWith_29 : decode cX1_storiesWith 29 = .ok (.ifCond .eq 10, 3) := by decide +kernel
theorem dX1_storiesWith_32 : decode cX1_storiesWith 32 = .ok (.iload_n 3, 1) := by decide +kernel
theorem dX1_storiesWith_33 : decode cX1_storiesWith 33 = .ok (.iconst 1, 1) := by decide +kernel
theorem dX1_storiesWith_34 : decode cX1_storiesWith 34 = .ok (.iload 4, 2) := by decide +kernel
theorem dX1_storiesWith_36 : decode cX1_storiesWith 36 = .ok (.ishl, 1) := by decide +kernel
theorem dX1_storiesWith_37 : decode cX1_storiesWith 37 = .ok (.ior, 1) := by decide +kernel
theorem dX1_storiesWith_38 : decode cX1_storiesWith 38 = .ok (.istore_n 3, 1) := by decide +kernel
theorem dX1_storiesWith_39 : decode cX1_storiesWith 39 = .ok (.iinc 4 1, 3) := by decide +kernel
theorem dX1_storiesWith_42 : decode cX1_storiesWith 42 = .ok (.goto (-37), 3) := by decide +kernel
theorem dX1_storiesWith_45 : decode cX1_storiesWith 45 = .ok (.iload_n 3, 1) := by decide +kernel
theorem dX1_storiesWith_46 : decode cX1_storiesWith 46 = .ok (.ireturn, 1) := by decide +kernel
theorem dX1_underOath_0 : decode cX1_underOath 0 = .ok (.iconst 0, 1) := by decide +kernel
theorem dX1_underOath_1 : decode cX1_underOath 1 = .ok (.istore_n 2, 1) := by decide +kernel
theorem dX1_underOath_2 : decode cX1_underOath 2 = .ok (.iconst 0, 1) := by decide +kernel
theorem dX1_underOath_3 : decode cX1_underOath 3 = .ok (.istore_n 3, 1) := by decide +kernel
theorem dX1_underOath_4 : decode cX1_underOath 4 = .ok (.iload_n 3, 1) := by decide +kernel
theorem dX1_underOath_5 : decode cX1_underOath 5 = .ok (.aload_n 0, 1) := by decide +kernel
theorem dX1_underOath_6 : decode cX1_underOath 6 = .ok (.getfield 27, 3) := by decide +kernel
theorem dX1_underOath_9 : decode cX1_underOath 9 = .ok (.if_icmp .ge 36, 3) := by decide +kernel
theorem dX1_underOath_12 : decode cX1_underOath 12 = .ok (.aload_n 0, 1) := by decide +kernel
theorem dX1_underOath_13 : decode cX1_underOath 13 = .ok (.getfield 9, 3) := by decide +kernel
theorem dX1_underOath_16 : decode cX1_underOath 16 = .ok (.iload_n 3, 1) := by decide +kernel
theorem dX1_underOath_17 : decode cX1_underOath 17 = .ok (.iaload, 1) := by decide +kernel
theorem dX1_underOath_18 : decode cX1_underOath 18 = .ok (.bipush 7, 2) := by decide +kernel
theorem dX1_underOath_20 : decode cX1_underOath 20 = .ok (.if_icmp .eq 19, 3) := by decide +kernel
theorem dX1_underOath_23 : decode cX1_underOath 23 = .ok (.aload_n 0, 1) := by decide +kernel
theorem dX1_underOath_24 : decode cX1_underOath 24 = .ok (.getfield 15, 3) := by decide +kernel
theorem dX1_underOath_27 : decode cX1_underOath 27 = .ok (.iload_n 3, 1) := by decide +kernel
theorem dX1_underOath_28 : decode cX1_underOath 28 = .ok (.iaload, 1) := by decide +kernel
theorem dX1_underOath_29 : decode cX1_underOath 29 = .ok (.iload_n 1, 1) := by decide +kernel
theorem dX1_underOath_30 : decode cX1_underOath 30 = .ok (.if_icmp .gt 9, 3) := by decide +kernel
theorem dX1_underOath_33 : decode cX1_underOath 33 = .ok (.iload_n 2, 1) := by decide +kernel
theorem dX1_underOath_34 : decode cX1_underOath 34 = .ok (.iconst 1, 1) := by decide +kernel
theorem dX1_underOath_35 : decode cX1_underOath 35 = .ok (.iload_n 3, 1) := by decide +kernel
theorem dX1_underOath_36 : decode cX1_underOath 36 = .ok (.ishl, 1) := by decide +kernel
theorem dX1_underOath_37 : decode cX1_underOath 37 = .ok (.ior, 1) := by decide +kernel
theorem dX1_underOath_38 : decode cX1_underOath 38 = .ok (.istore_n 2, 1) := by decide +kernel
theorem dX1_underOath_39 : decode cX1_underOath 39 = .ok (.iinc 3 1, 3) := by decide +kernel
theorem dX1_underOath_42 : decode cX1_underOath 42 = .ok (.goto (-38), 3) := by decide +kernel
theorem dX1_underOath_45 : decode cX1_underOath 45 = .ok (.iload_n 2, 1) := by decide +kernel
theorem dX1_underOath_46 : decode cX1_underOath 46 = .ok (.ireturn, 1) := by decide +kernel
theorem dX1_inventedFor_0 : decode cX1_inventedFor 0 = .ok (.iconst 0, 1) := by decide +kernel
theorem dX1_inventedFor_1 : decode cX1_inventedFor 1 = .ok (.istore_n 2, 1) := by decide +kernel
theorem dX1_inventedFor_2 : decode cX1_inventedFor 2 = .ok (.iconst 0, 1) := by decide +kernel
theorem dX1_inventedFor_3 : decode cX1_inventedFor 3 = .ok (.istore_n 3, 1) := by decide +kernel
theorem dX1_inventedFor_4 : decode cX1_inventedFor 4 = .ok (.iload_n 3, 1) := by decide +kernel
theorem dX1_inventedFor_5 : decode cX1_inventedFor 5 = .ok (.aload_n 0, 1) := by decide +kernel
theorem dX1_inventedFor_6 : decode cX1_inventedFor 6 = .ok (.getfield 27, 3) := by decide +kernel
theorem dX1_inventedFor_9 : decode cX1_inventedFor 9 = .ok (.if_icmp .ge 47, 3) := by decide +kernel
theorem dX1_inventedFor_12 : decode cX1_inventedFor 12 = .ok (.aload_n 0, 1) := by decide +kernel
theorem dX1_inventedFor_13 : decode cX1_inventedFor 13 = .ok (.getfield 9, 3) := by decide +kernel
theorem dX1_inventedFor_16 : decode cX1_inventedFor 16 = .ok (.iload_n 3, 1) := by decide +kernel
theorem dX1_inventedFor_17 : decode cX1_inventedFor 17 = .ok (.iaload, 1) := by decide +kernel
theorem dX1_inventedFor_18 : decode cX1_inventedFor 18 = .ok (.bipush 7, 2) := by decide +kernel
theorem dX1_inventedFor_20 : decode cX1_inventedFor 20 = .ok (.if_icmp .eq 24, 3) := by decide +kernel
theorem dX1_inventedFor_23 : decode cX1_inventedFor 23 = .ok (.aload_n 0, 1) := by decide +kernel
theorem dX1_inventedFor_24 : decode cX1_inventedFor 24 = .ok (.getfield 9, 3) := by decide +kernel
theorem dX1_inventedFor_27 : decode cX1_inventedFor 27 = .ok (.iload_n 3, 1) := by decide +kernel
theorem dX1_inventedFor_28 : decode cX1_inventedFor 28 = .ok (.iaload, 1) := by decide +kernel
theorem dX1_inventedFor_29 : decode cX1_inventedFor 29 = .ok (.bipush 6, 2) := by decide +kernel
theorem dX1_inventedFor_31 : decode cX1_inventedFor 31 = .ok (.if_icmp .ne 19, 3) := by decide +kernel
theorem dX1_inventedFor_34 : decode cX1_inventedFor 34 = .ok (.aload_n 0, 1) := by decide +kernel
theorem dX1_inventedFor_35 : decode cX1_inventedFor 35 = .ok (.getfield 15, 3) := by decide +kernel
theorem dX1_inventedFor_38 : decode cX1_inventedFor 38 = .ok (.iload_n 3, 1) := by decide +kernel
theorem dX1_inventedFor_39 : decode cX1_inventedFor 39 = .ok (.iaload, 1) := by decide +kernel
theorem dX1_inventedFor_40 : decode cX1_inventedFor 40 = .ok (.iload_n 1, 1) := by decide +kernel
theorem dX1_inventedFor_41 : decode cX1_inventedFor 41 = .ok (.if_icmp .le 9, 3) := by decide +kernel
theorem dX1_inventedFor_44 : decode cX1_inventedFor 44 = .ok (.iload_n 2, 1) := by decide +kernel
theorem dX1_inventedFor_45 : decode cX1_inventedFor 45 = .ok (.iconst 1, 1) := by decide +kernel
theorem dX1_inventedFor_46 : decode cX1_inventedFor 46 = .ok (.iload_n 3, 1) := by decide +kernel
theorem dX1_inventedFor_47 : decode cX1_inventedFor 47 = .ok (.ishl, 1) := by decide +kernel
theorem dX1_inventedFor_48 : decode cX1_inventedFor 48 = .ok (.ior, 1) := by decide +kernel
theorem dX1_inventedFor_49 : decode cX1_inventedFor 49 = .ok (.istore_n 2, 1) := by decide +kernel
theorem dX1_inventedFor_50 : decode cX1_inventedFor 50 = .ok (.iinc 3 1, 3) := by decide +kernel
theorem dX1_inventedFor_53 : decode cX1_inventedFor 53 = .ok (.goto (-49), 3) := by decide +kernel
theorem dX1_inventedFor_56 : decode cX1_inventedFor 56 = .ok (.iload_n 2, 1) := by decide +kernel
theorem dX1_inventedFor_57 : decode cX1_inventedFor 57 = .ok (.ireturn, 1) := by decide +kernel
theorem dX1_weight_0 : decode cX1_weight 0 = .ok (.aload_n 0, 1) := by decide +kernel
theorem dX1_weight_1 : decode cX1_weight 1 = .ok (.iload_n 1, 1) := by decide +kernel
theorem dX1_weight_2 : decode cX1_weight 2 = .ok (.invokevirtual 52, 3) := by decide +kernel
theorem dX1_weight_5 : decode cX1_weight 5 = .ok (.ifCond .ne 5, 3) := by decide +kernel
theorem dX1_weight_8 : decode cX1_weight 8 = .ok (.lconst 0, 1) := by decide +kernel
theorem dX1_weight_9 : decode cX1_weight 9 = .ok (.lreturn, 1) := by decide +kernel
theorem dX1_weight_10 : decode cX1_weight 10 = .ok (.aload_n 0, 1) := by decide +kernel
theorem dX1_weight_11 : decode cX1_weight 11 = .ok (.getfield 24, 3) := by decide +kernel
theorem dX1_weight_14 : decode cX1_weight 14 = .ok (.iload_n 1, 1) := by decide +kernel
theorem dX1_weight_15 : decode cX1_weight 15 = .ok (.iaload, 1) := by decide +kernel
theorem dX1_weight_16 : decode cX1_weight 16 = .ok (.i2l, 1) := by decide +kernel
theorem dX1_weight_17 : decode cX1_weight 17 = .ok (.lstore_n 3, 1) := by decide +kernel
theorem dX1_weight_18 : decode cX1_weight 18 = .ok (.iconst 0, 1) := by decide +kernel
theorem dX1_weight_19 : decode cX1_weight 19 = .ok (.istore 5, 2) := by decide +kernel
theorem dX1_weight_21 : decode cX1_weight 21 = .ok (.iload 5, 2) := by decide +kernel
theorem dX1_weight_23 : decode cX1_weight 23 = .ok (.aload_n 0, 1) := by decide +kernel
theorem dX1_weight_24 : decode cX1_weight 24 = .ok (.getfield 27, 3) := by decide +kernel
theorem dX1_weight_27 : decode cX1_weight 27 = .ok (.if_icmp .ge 85, 3) := by decide +kernel
theorem dX1_weight_30 : decode cX1_weight 30 = .ok (.iload 5, 2) := by decide +kernel
theorem dX1_weight_32 : decode cX1_weight 32 = .ok (.aload_n 0, 1) := by decide +kernel
theorem dX1_weight_33 : decode cX1_weight 33 = .ok (.getfield 18, 3) := by decide +kernel
theorem dX1_weight_36 : decode cX1_weight 36 = .ok (.iload_n 1, 1) := by decide +kernel
theorem dX1_weight_37 : decode cX1_weight 37 = .ok (.iaload, 1) := by decide +kernel
theorem dX1_weight_38 : decode cX1_weight 38 = .ok (.invokestatic 48, 3) := by decide +kernel
theorem dX1_weight_41 : decode cX1_weight 41 = .ok (.istore 6, 2) := by decide +kernel
theorem dX1_weight_43 : decode cX1_weight 43 = .ok (.iload 5, 2) := by decide +kernel
theorem dX1_weight_45 : decode cX1_weight 45 = .ok (.iload_n 2, 1) := by decide +kernel
theorem dX1_weight_46 : decode cX1_weight 46 = .ok (.invokestatic 48, 3) := by decide +kernel
theorem dX1_weight_49 : decode cX1_weight 49 = .ok (.ifCond .ne 21, 3) := by decide +kernel
theorem dX1_weight_52 : decode cX1_weight 52 = .ok (.lload_n 3, 1) := by decide +kernel
theorem dX1_weight_53 : decode cX1_weight 53 = .ok (.iload 6, 2) := by decide +kernel
theorem dX1_weight_55 : decode cX1_weight 55 = .ok (.ifCond .eq 7, 3) := by decide +kernel
theorem dX1_weight_58 : decode cX1_weight 58 = .ok (.lconst 1, 1) := by decide +kernel
theorem dX1_weight_59 : decode cX1_weight 59 = .ok (.goto 6, 3) := by decide +kernel
theorem dX1_weight_62 : decode cX1_weight 62 = .ok (.ldc2_w 55, 3) := by decide +kernel
theorem dX1_weight_65 : decode cX1_weight 65 = .ok (.lmul, 1) := by decide +kernel
theorem dX1_weight_66 : decode cX1_weight 66 = .ok (.lstore_n 3, 1) := by decide +kernel
theorem dX1_weight_67 : decode cX1_weight 67 = .ok (.goto 39, 3) := by decide +kernel
theorem dX1_weight_70 : decode cX1_weight 70 = .ok (.iload 5, 2) := by decide +kernel
theorem dX1_weight_72 : decode cX1_weight 72 = .ok (.aload_n 0, 1) := by decide +kernel
theorem dX1_weight_73 : decode cX1_weight 73 = .ok (.getfield 21, 3) := by decide +kernel
theorem dX1_weight_76 : decode cX1_weight 76 = .ok (.iload_n 1, 1) := by decide +kernel
theorem dX1_weight_77 : decode cX1_weight 77 = .ok (.iaload, 1) := by decide +kernel
theorem dX1_weight_78 : decode cX1_weight 78 = .ok (.invokestatic 48, 3) := by decide +kernel
theorem dX1_weight_81 : decode cX1_weight 81 = .ok (.ifCond .eq 8, 3) := by decide +kernel
theorem dX1_weight_84 : decode cX1_weight 84 = .ok (.lconst 0, 1) := by decide +kernel
theorem dX1_weight_85 : decode cX1_weight 85 = .ok (.lstore_n 3, 1) := by decide +kernel
theorem dX1_weight_86 : decode cX1_weight 86 = .ok (.goto 20, 3) := by decide +kernel
theorem dX1_weight_89 : decode cX1_weight 89 = .ok (.lload_n 3, 1) := by decide +kernel
theorem dX1_weight_90 : decode cX1_weight 90 = .ok (.iload 6, 2) := by decide +kernel
theorem dX1_weight_92 : decode cX1_weight 92 = .ok (.ifCond .eq 9, 3) := by decide +kernel
theorem dX1_weight_95 : decode cX1_weight 95 = .ok (.ldc2_w 57, 3) := by decide +kernel
theorem dX1_weight_98 : decode cX1_weight 98 = .ok (.goto 6, 3) := by decide +kernel
theorem dX1_weight_101 : decode cX1_weight 101 = .ok (.ldc2_w 55, 3) := by decide +kernel
theorem dX1_weight_104 : decode cX1_weight 104 = .ok (.lmul, 1) := by decide +kernel
theorem dX1_weight_105 : decode cX1_weight 105 = .ok (.lstore_n 3, 1) := by decide +kernel
theorem dX1_weight_106 : decode cX1_weight 106 = .ok (.iinc 5 1, 3) := by decide +kernel
theorem dX1_weight_109 : decode cX1_weight 109 = .ok (.goto (-88), 3) := by decide +kernel
theorem dX1_weight_112 : decode cX1_weight 112 = .ok (.lload_n 3, 1) := by decide +kernel
theorem dX1_weight_113 : decode cX1_weight 113 = .ok (.lreturn, 1) := by decide +kernel
theorem dX1_likeliestStory_0 : decode cX1_likeliestStory 0 = .ok (.ldc 59, 2) := by decide +kernel
theorem dX1_likeliestStory_2 : decode cX1_likeliestStory 2 = .ok (.istore_n 2, 1) := by decide +kernel
theorem dX1_likeliestStory_3 : decode cX1_likeliestStory 3 = .ok (.lconst 0, 1) := by decide +kernel
theorem dX1_likeliestStory_4 : decode cX1_likeliestStory 4 = .ok (.lstore_n 3, 1) := by decide +kernel
theorem dX1_likeliestStory_5 : decode cX1_likeliestStory 5 = .ok (.iconst 0, 1) := by decide +kernel
theorem dX1_likeliestStory_6 : decode cX1_likeliestStory 6 = .ok (.istore 5, 2) := by decide +kernel
theorem dX1_likeliestStory_8 : decode cX1_likeliestStory 8 = .ok (.iload 5, 2) := by decide +kernel
theorem dX1_likeliestStory_10 : decode cX1_likeliestStory 10 = .ok (.aload_n 0, 1) := by decide +kernel
theorem dX1_likeliestStory_11 : decode cX1_likeliestStory 11 = .ok (.getfield 31, 3) := by decide +kernel
theorem dX1_likeliestStory_14 : decode cX1_likeliestStory 14 = .ok (.if_icmp .ge 31, 3) := by decide +kernel
theorem dX1_likeliestStory_17 : decode cX1_likeliestStory 17 = .ok (.aload_n 0, 1) := by decide +kernel
theorem dX1_likeliestStory_18 : decode cX1_likeliestStory 18 = .ok (.iload 5, 2) := by decide +kernel
theorem dX1_likeliestStory_20 : decode cX1_likeliestStory 20 = .ok (.iload_n 1, 1) := by decide +kernel
theorem dX1_likeliestStory_21 : decode cX1_likeliestStory 21 = .ok (.invokevirtual 60, 3) := by decide +kernel
theorem dX1_likeliestStory_24 : decode cX1_likeliestStory 24 = .ok (.lstore 6, 2) := by decide +kernel
theorem dX1_likeliestStory_26 : decode cX1_likeliestStory 26 = .ok (.lload 6, 2) := by decide +kernel
theorem dX1_likeliestStory_28 : decode cX1_likeliestStory 28 = .ok (.lload_n 3, 1) := by decide +kernel
theorem dX1_likeliestStory_29 : decode cX1_likeliestStory 29 = .ok (.lcmp, 1) := by decide +kernel
theorem dX1_likeliestStory_30 : decode cX1_likeliestStory 30 = .ok (.ifCond .le 9, 3) := by decide +kernel
theorem dX1_likeliestStory_33 : decode cX1_likeliestStory 33 = .ok (.lload 6, 2) := by decide +kernel
theorem dX1_likeliestStory_35 : decode cX1_likeliestStory 35 = .ok (.lstore_n 3, 1) := by decide +kernel
theorem dX1_likeliestStory_36 : decode cX1_likeliestStory 36 = .ok (.iload 5, 2) := by decide +kernel
theorem dX1_likeliestStory_38 : decode cX1_likeliestStory 38 = .ok (.istore_n 2, 1) := by decide +kernel
theorem dX1_likeliestStory_39 : decode cX1_likeliestStory 39 = .ok (.iinc 5 1, 3) := by decide +kernel
theorem dX1_likeliestStory_42 : decode cX1_likeliestStory 42 = .ok (.goto (-34), 3) := by decide +kernel
theorem dX1_likeliestStory_45 : decode cX1_likeliestStory 45 = .ok (.iload_n 2, 1) := by decide +kernel
theorem dX1_likeliestStory_46 : decode cX1_likeliestStory 46 = .ok (.ireturn, 1) := by decide +kernel
theorem dX1_signToAskFor_0 : decode cX1_signToAskFor 0 = .ok (.ldc 59, 2) := by decide +kernel
theorem dX1_signToAskFor_2 : decode cX1_signToAskFor 2 = .ok (.istore_n 2, 1) := by decide +kernel
theorem dX1_signToAskFor_3 : decode cX1_signToAskFor 3 = .ok (.iconst (-1), 1) := by decide +kernel
theorem dX1_signToAskFor_4 : decode cX1_signToAskFor 4 = .ok (.istore_n 3, 1) := by decide +kernel
theorem dX1_signToAskFor_5 : decode cX1_signToAskFor 5 = .ok (.iconst 0, 1) := by decide +kernel
theorem dX1_signToAskFor_6 : decode cX1_signToAskFor 6 = .ok (.istore 4, 2) := by decide +kernel
theorem dX1_signToAskFor_8 : decode cX1_signToAskFor 8 = .ok (.iload 4, 2) := by decide +kernel
theorem dX1_signToAskFor_10 : decode cX1_signToAskFor 10 = .ok (.aload_n 0, 1) := by decide +kernel
theorem dX1_signToAskFor_11 : decode cX1_signToAskFor 11 = .ok (.getfield 27, 3) := by decide +kernel
theorem dX1_signToAskFor_14 : decode cX1_signToAskFor 14 = .ok (.if_icmp .ge 63, 3) := by decide +kernel
theorem dX1_signToAskFor_17 : decode cX1_signToAskFor 17 = .ok (.aload_n 0, 1) := by decide +kernel
theorem dX1_signToAskFor_18 : decode cX1_signToAskFor 18 = .ok (.iload 4, 2) := by decide +kernel
theorem dX1_signToAskFor_20 : decode cX1_signToAskFor 20 = .ok (.aload_n 0, 1) := by decide +kernel
theorem dX1_signToAskFor_21 : decode cX1_signToAskFor 21 = .ok (.getfield 18, 3) := by decide +kernel
theorem dX1_signToAskFor_24 : decode cX1_signToAskFor 24 = .ok (.invokevirtual 64, 3) := by decide +kernel
theorem dX1_signToAskFor_27 : decode cX1_signToAskFor 27 = .ok (.invokestatic 68, 3) := by decide +kernel
theorem dX1_signToAskFor_30 : decode cX1_signToAskFor 30 = .ok (.istore 5, 2) := by decide +kernel
theorem dX1_signToAskFor_32 : decode cX1_signToAskFor 32 = .ok (.iload 5, 2) := by decide +kernel
theorem dX1_signToAskFor_34 : decode cX1_signToAskFor 34 = .ok (.aload_n 0, 1) := by decide +kernel
theorem dX1_signToAskFor_35 : decode cX1_signToAskFor 35 = .ok (.iload 4, 2) := by decide +kernel
theorem dX1_signToAskFor_37 : decode cX1_signToAskFor 37 = .ok (.aload_n 0, 1) := by decide +kernel
theorem dX1_signToAskFor_38 : decode cX1_signToAskFor 38 = .ok (.getfield 21, 3) := by decide +kernel
theorem dX1_signToAskFor_41 : decode cX1_signToAskFor 41 = .ok (.invokevirtual 64, 3) := by decide +kernel
theorem dX1_signToAskFor_44 : decode cX1_signToAskFor 44 = .ok (.invokestatic 68, 3) := by decide +kernel
theorem dX1_signToAskFor_47 : decode cX1_signToAskFor 47 = .ok (.imul, 1) := by decide +kernel
theorem dX1_signToAskFor_48 : decode cX1_signToAskFor 48 = .ok (.istore 6, 2) := by decide +kernel
theorem dX1_signToAskFor_50 : decode cX1_signToAskFor 50 = .ok (.iload 4, 2) := by decide +kernel
theorem dX1_signToAskFor_52 : decode cX1_signToAskFor 52 = .ok (.iload_n 1, 1) := by decide +kernel
theorem dX1_signToAskFor_53 : decode cX1_signToAskFor 53 = .ok (.invokestatic 48, 3) := by decide +kernel
theorem dX1_signToAskFor_56 : decode cX1_signToAskFor 56 = .ok (.ifCond .ne 15, 3) := by decide +kernel
theorem dX1_signToAskFor_59 : decode cX1_signToAskFor 59 = .ok (.iload 6, 2) := by decide +kernel
theorem dX1_signToAskFor_61 : decode cX1_signToAskFor 61 = .ok (.iload_n 3, 1) := by decide +kernel
theorem dX1_signToAskFor_62 : decode cX1_signToAskFor 62 = .ok (.if_icmp .le 9, 3) := by decide +kernel
theorem dX1_signToAskFor_65 : decode cX1_signToAskFor 65 = .ok (.iload 6, 2) := by decide +kernel
theorem dX1_signToAskFor_67 : decode cX1_signToAskFor 67 = .ok (.istore_n 3, 1) := by decide +kernel
theorem dX1_signToAskFor_68 : decode cX1_signToAskFor 68 = .ok (.iload 4, 2) := by decide +kernel
theorem dX1_signToAskFor_70 : decode cX1_signToAskFor 70 = .ok (.istore_n 2, 1) := by decide +kernel
theorem dX1_signToAskFor_71 : decode cX1_signToAskFor 71 = .ok (.iinc 4 1, 3) := by decide +kernel
theorem dX1_signToAskFor_74 : decode cX1_signToAskFor 74 = .ok (.goto (-66), 3) := by decide +kernel
theorem dX1_signToAskFor_77 : decode cX1_signToAskFor 77 = .ok (.iload_n 2, 1) := by decide +kernel
theorem dX1_signToAskFor_78 : decode cX1_signToAskFor 78 = .ok (.ireturn, 1) := by decide +kernel
theorem dX2_init_0 : decode cX2_init 0 = .ok (.aload_n 0, 1) := by decide +kernel
theorem dX2_init_1 : decode cX2_init 1 = .ok (.invokespecial 3, 3) := by decide +kernel
theorem dX2_init_4 : decode cX2_init 4 = .ok (.aload_n 0, 1) := by decide +kernel
theorem dX2_init_5 : decode cX2_init 5 = .ok (.bipush 10, 2) := by decide +kernel
theorem dX2_init_7 : decode cX2_init 7 = .ok (.newarray .int, 2) := by decide +kernel
theorem dX2_init_9 : decode cX2_init 9 = .ok (.putfield 9, 3) := by decide +kernel
theorem dX2_init_12 : decode cX2_init 12 = .ok (.aload_n 0, 1) := by decide +kernel
theorem dX2_init_13 : decode cX2_init 13 = .ok (.bipush 10, 2) := by decide +kernel
theorem dX2_init_15 : decode cX2_init 15 = .ok (.newarray .int, 2) := by decide +kernel
theorem dX2_init_17 : decode cX2_init 17 = .ok (.putfield 15, 3) := by decide +kernel
theorem dX2_init_20 : decode cX2_init 20 = .ok (.return_, 1) := by decide +kernel
theorem dX2_clear_0 : decode cX2_clear 0 = .ok (.aload_n 0, 1) := by decide +kernel
theorem dX2_clear_1 : decode cX2_clear 1 = .ok (.iconst 0, 1) := by decide +kernel
theorem dX2_clear_2 : decode cX2_clear 2 = .ok (.putfield 18, 3) := by decide +kernel
theorem dX2_clear_5 : decode cX2_clear 5 = .ok (.return_, 1) := by decide +kernel
theorem dX2_become_0 : decode cX2_become 0 = .ok (.aload_n 0, 1) := by decide +kernel
theorem dX2_become_1 : decode cX2_become 1 = .ok (.aload_n 1, 1) := by decide +kernel
theorem dX2_become_2 : decode cX2_become 2 = .ok (.getfield 18, 3) := by decide +kernel
theorem dX2_become_5 : decode cX2_become 5 = .ok (.putfield 18, 3) := by decide +kernel
theorem dX2_become_8 : decode cX2_become 8 = .ok (.aload_n 1, 1) := by decide +kernel
theorem dX2_become_9 : decode cX2_become 9 = .ok (.getfield 9, 3) := by decide +kernel
theorem dX2_become_12 : decode cX2_become 12 = .ok (.iconst 0, 1) := by decide +kernel
theorem dX2_become_13 : decode cX2_become 13 = .ok (.aload_n 0, 1) := by decide +kernel
theorem dX2_become_14 : decode cX2_become 14 = .ok (.getfield 9, 3) := by decide +kernel
theorem dX2_become_17 : decode cX2_become 17 = .ok (.iconst 0, 1) := by decide +kernel
theorem dX2_become_18 : decode cX2_become 18 = .ok (.bipush 10, 2) := by decide +kernel
theorem dX2_become_20 : decode cX2_become 20 = .ok (.invokestatic 22, 3) := by decide +kernel
theorem dX2_become_23 : decode cX2_become 23 = .ok (.aload_n 1, 1) := by decide +kernel
theorem dX2_become_24 : decode cX2_become 24 = .ok (.getfield 15, 3) := by decide +kernel
theorem dX2_become_27 : decode cX2_become 27 = .ok (.iconst 0, 1) := by decide +kernel
theorem dX2_become_28 : decode cX2_become 28 = .ok (.aload_n 0, 1) := by decide +kernel
theorem dX2_become_29 : decode cX2_become 29 = .ok (.getfield 15, 3) := by decide +kernel
theorem dX2_become_32 : decode cX2_become 32 = .ok (.iconst 0, 1) := by decide +kernel
theorem dX2_become_33 : decode cX2_become 33 = .ok (.bipush 10, 2) := by decide +kernel
theorem dX2_become_35 : decode cX2_become 35 = .ok (.invokestatic 22, 3) := by decide +kernel
theorem dX2_become_38 : decode cX2_become 38 = .ok (.return_, 1) := by decide +kernel
theorem dX2_add_0 : decode cX2_add 0 = .ok (.aload_n 0, 1) := by decide +kernel
theorem dX2_add_1 : decode cX2_add 1 = .ok (.getfield 18, 3) := by decide +kernel
theorem dX2_add_4 : decode cX2_add 4 = .ok (.bipush 10, 2) := by decide +kernel
theorem dX2_add_6 : decode cX2_add 6 = .ok (.if_icmp .ge 33, 3) := by decide +kernel
theorem dX2_add_9 : decode cX2_add 9 = .ok (.aload_n 0, 1) := by decide +kernel
theorem dX2_add_10 : decode cX2_add 10 = .ok (.getfield 9, 3) := by decide +kernel
theorem dX2_add_13 : decode cX2_add 13 = .ok (.aload_n 0, 1) := by decide +kernel
theorem dX2_add_14 : decode cX2_add 14 = .ok (.getfield 18, 3) := by decide +kernel
theorem dX2_add_17 : decode cX2_add 17 = .ok (.iload_n 1, 1) := by decide +kernel
theorem dX2_add_18 : decode cX2_add 18 = .ok (.iastore, 1) := by decide +kernel
theorem dX2_add_19 : decode cX2_add 19 = .ok (.aload_n 0, 1) := by decide +kernel
theorem dX2_add_20 : decode cX2_add 20 = .ok (.getfield 15, 3) := by decide +kernel
theorem dX2_add_23 : decode cX2_add 23 = .ok (.aload_n 0, 1) := by decide +kernel
theorem dX2_add_24 : decode cX2_add 24 = .ok (.getfield 18, 3) := by decide +kernel
theorem dX2_add_27 : decode cX2_add 27 = .ok (.iload_n 2, 1) := by decide +kernel
theorem dX2_add_28 : decode cX2_add 28 = .ok (.iastore, 1) := by decide +kernel
theorem dX2_add_29 : decode cX2_add 29 = .ok (.aload_n 0, 1) := by decide +kernel
theorem dX2_add_30 : decode cX2_add 30 = .ok (.dup, 1) := by decide +kernel
theorem dX2_add_31 : decode cX2_add 31 = .ok (.getfield 18, 3) := by decide +kernel
theorem dX2_add_34 : decode cX2_add 34 = .ok (.iconst 1, 1) := by decide +kernel
theorem dX2_add_35 : decode cX2_add 35 = .ok (.iadd, 1) := by decide +kernel
theorem dX2_add_36 : decode cX2_add 36 = .ok (.putfield 18, 3) := by decide +kernel
theorem dX2_add_39 : decode cX2_add 39 = .ok (.return_, 1) := by decide +kernel
theorem dX2_leaving_0 : decode cX2_leaving 0 = .ok (.iconst 0, 1) := by decide +kernel
theorem dX2_leaving_1 : decode cX2_leaving 1 = .ok (.istore 4, 2) := by decide +kernel
theorem dX2_leaving_3 : decode cX2_leaving 3 = .ok (.iconst 0, 1) := by decide +kernel
theorem dX2_leaving_4 : decode cX2_leaving 4 = .ok (.istore 5, 2) := by decide +kernel
theorem dX2_leaving_6 : decode cX2_leaving 6 = .ok (.iconst 0, 1) := by decide +kernel
theorem dX2_leaving_7 : decode cX2_leaving 7 = .ok (.istore 6, 2) := by decide +kernel
theorem dX2_leaving_9 : decode cX2_leaving 9 = .ok (.iload 6, 2) := by decide +kernel
theorem dX2_leaving_11 : decode cX2_leaving 11 = .ok (.bipush 10, 2) := by decide +kernel
theorem dX2_leaving_13 : decode cX2_leaving 13 = .ok (.if_icmp .ge 36, 3) := by decide +kernel
theorem dX2_leaving_16 : decode cX2_leaving 16 = .ok (.aload_n 0, 1) := by decide +kernel
theorem dX2_leaving_17 : decode cX2_leaving 17 = .ok (.iload 4, 2) := by decide +kernel
theorem dX2_leaving_19 : decode cX2_leaving 19 = .ok (.iload_n 1, 1) := by decide +kernel
theorem dX2_leaving_20 : decode cX2_leaving 20 = .ok (.iload_n 2, 1) := by decide +kernel
theorem dX2_leaving_21 : decode cX2_leaving 21 = .ok (.invokevirtual 28, 3) := by decide +kernel
theorem dX2_leaving_24 : decode cX2_leaving 24 = .ok (.istore 7, 2) := by decide +kernel
theorem dX2_leaving_26 : decode cX2_leaving 26 = .ok (.iload 7, 2) := by decide +kernel
theorem dX2_leaving_28 : decode cX2_leaving 28 = .ok (.iload 4, 2) := by decide +kernel
theorem dX2_leaving_30 : decode cX2_leaving 30 = .ok (.if_icmp .ne 6, 3) := by decide +kernel
theorem dX2_leaving_33 : decode cX2_leaving 33 = .ok (.goto 16, 3) := by decide +kernel
theorem dX2_leaving_36 : decode cX2_leaving 36 = .ok (.iload 7, 2) := by decide +kernel
theorem dX2_leaving_38 : decode cX2_leaving 38 = .ok (.istore 4, 2) := by decide +kernel
theorem dX2_leaving_40 : decode cX2_leaving 40 = .ok (.iinc 5 1, 3) := by decide +kernel
theorem dX2_leaving_43 : decode cX2_leaving 43 = .ok (.iinc 6 1, 3) := by decide +kernel
theorem dX2_leaving_46 : decode cX2_leaving 46 = .ok (.goto (-37), 3) := by decide +kernel
theorem dX2_leaving_49 : decode cX2_leaving 49 = .ok (.iload_n 3, 1) := by decide +kernel
theorem dX2_leaving_50 : decode cX2_leaving 50 = .ok (.ifCond .ne 8, 3) := by decide +kernel
theorem dX2_leaving_53 : decode cX2_leaving 53 = .ok (.iload 4, 2) := by decide +kernel
theorem dX2_leaving_55 : decode cX2_leaving 55 = .ok (.goto 5, 3) := by decide +kernel
theorem dX2_leaving_58 : decode cX2_leaving 58 = .ok (.iload 5, 2) := by decide +kernel
theorem dX2_leaving_60 : decode cX2_leaving 60 = .ok (.ireturn, 1) := by decide +kernel
theorem dX2_leastWaterForAll_0 : decode cX2_leastWaterForAll 0 = .ok (.iconst 1, 1) := by decide +kernel
theorem dX2_leastWaterForAll_1 : decode cX2_leastWaterForAll 1 = .ok (.aload_n 0, 1) := by decide +kernel
theorem dX2_leastWaterForAll_2 : decode cX2_leastWaterForAll 2 = .ok (.getfield 18, 3) := by decide +kernel
theorem dX2_leastWaterForAll_5 : decode cX2_leastWaterForAll 5 = .ok (.ishl, 1) := by decide +kernel
theorem dX2_leastWaterForAll_6 : decode cX2_leastWaterForAll 6 = .ok (.iconst 1, 1) := by decide +kernel
theorem dX2_leastWaterForAll_7 : decode cX2_leastWaterForAll 7 = .ok (.isub, 1) := by decide +kernel
theorem dX2_leastWaterForAll_8 : decode cX2_leastWaterForAll 8 = .ok (.istore_n 2, 1) := by decide +kernel
theorem dX2_leastWaterForAll_9 : decode cX2_leastWaterForAll 9 = .ok (.aload_n 0, 1) := by decide +kernel
theorem dX2_leastWaterForAll_10 : decode cX2_leastWaterForAll 10 = .ok (.getfield 18, 3) := by decide +kernel
theorem dX2_leastWaterForAll_13 : decode cX2_leastWaterForAll 13 = .ok (.ifCond .ne 6, 3) := by decide +kernel
theorem dX2_leastWaterForAll_16 : decode cX2_leastWaterForAll 16 = .ok (.ldc 32, 2) := by decide +kernel
theorem dX2_leastWaterForAll_18 : decode cX2_leastWaterForAll 18 = .ok (.ireturn, 1) := by decide +kernel
theorem dX2_leastWaterForAll_19 : decode cX2_leastWaterForAll 19 = .ok (.aload_n 0, 1) := by decide +kernel
theorem dX2_leastWaterForAll_20 : decode cX2_leastWaterForAll 20 = .ok (.iconst 1, 1) := by decide +kernel
theorem dX2_leastWaterForAll_21 : decode cX2_leastWaterForAll 21 = .ok (.iload_n 1, 1) := by decide +kernel
theorem dX2_leastWaterForAll_22 : decode cX2_leastWaterForAll 22 = .ok (.iconst 0, 1) := by decide +kernel
theorem dX2_leastWaterForAll_23 : decode cX2_leastWaterForAll 23 = .ok (.invokevirtual 33, 3) := by decide +kernel
theorem dX2_leastWaterForAll_26 : decode cX2_leastWaterForAll 26 = .ok (.iload_n 2, 1) := by decide +kernel
theorem dX2_leastWaterForAll_27 : decode cX2_leastWaterForAll 27 = .ok (.if_icmp .ne 5, 3) := by decide +kernel
theorem dX2_leastWaterForAll_30 : decode cX2_leastWaterForAll 30 = .ok (.iconst 1, 1) := by decide +kernel
theorem dX2_leastWaterForAll_31 : decode cX2_leastWaterForAll 31 = .ok (.ireturn, 1) := by decide +kernel
theorem dX2_leastWaterForAll_32 : decode cX2_leastWaterForAll 32 = .ok (.ldc 32, 2) := by decide +kernel
theorem dX2_leastWaterForAll_34 : decode cX2_leastWaterForAll 34 = .ok (.istore_n 3, 1) := by decide +kernel
theorem dX2_leastWaterForAll_35 : decode cX2_leastWaterForAll 35 = .ok (.iconst 0, 1) := by decide +kernel
theorem dX2_leastWaterForAll_36 : decode cX2_leastWaterForAll 36 = .ok (.istore 4, 2) := by decide +kernel
theorem dX2_leastWaterForAll_38 : decode cX2_leastWaterForAll 38 = .ok (.iload 4, 2) := by decide +kernel
theorem dX2_leastWaterForAll_40 : decode cX2_leastWaterForAll 40 = .ok (.aload_n 0, 1) := by decide +kernel
theorem dX2_leastWaterForAll_41 : decode cX2_leastWaterForAll 41 = .ok (.getfield 18, 3) := by decide +kernel
theorem dX2_leastWaterForAll_44 : decode cX2_leastWaterForAll 44 = .ok (.if_icmp .ge 63, 3) := by decide +kernel
theorem dX2_leastWaterForAll_47 : decode cX2_leastWaterForAll 47 = .ok (.iload_n 3, 1) := by decide +kernel
theorem dX2_leastWaterForAll_48 : decode cX2_leastWaterForAll 48 = .ok (.ldc 32, 2) := by decide +kernel
theorem dX2_leastWaterForAll_50 : decode cX2_leastWaterForAll 50 = .ok (.if_icmp .eq 14, 3) := by decide +kernel
theorem dX2_leastWaterForAll_53 : decode cX2_leastWaterForAll 53 = .ok (.aload_n 0, 1) := by decide +kernel
theorem dX2_leastWaterForAll_54 : decode cX2_leastWaterForAll 54 = .ok (.getfield 9, 3) := by decide +kernel
theorem dX2_leastWaterForAll_57 : decode cX2_leastWaterForAll 57 = .ok (.iload 4, 2) := by decide +kernel
theorem dX2_leastWaterForAll_59 : decode cX2_leastWaterForAll 59 = .ok (.iaload, 1) := by decide +kernel
theorem dX2_leastWaterForAll_60 : decode cX2_leastWaterForAll 60 = .ok (.iload_n 3, 1) := by decide +kernel
theorem dX2_leastWaterForAll_61 : decode cX2_leastWaterForAll 61 = .ok (.if_icmp .ge 7, 3) := by decide +kernel
theorem dX2_leastWaterForAll_64 : decode cX2_leastWaterForAll 64 = .ok (.iconst 1, 1) := by decide +kernel
theorem dX2_leastWaterForAll_65 : decode cX2_leastWaterForAll 65 = .ok (.goto 4, 3) := by decide +kernel
theorem dX2_leastWaterForAll_68 : decode cX2_leastWaterForAll 68 = .ok (.iconst 0, 1) := by decide +kernel
theorem dX2_leastWaterForAll_69 : decode cX2_leastWaterForAll 69 = .ok (.istore 5, 2) := by decide +kernel
theorem dX2_leastWaterForAll_71 : decode cX2_leastWaterForAll 71 = .ok (.iload 5, 2) := by decide +kernel
theorem dX2_leastWaterForAll_73 : decode cX2_leastWaterForAll 73 = .ok (.ifCond .eq 28, 3) := by decide +kernel
theorem dX2_leastWaterForAll_76 : decode cX2_leastWaterForAll 76 = .ok (.aload_n 0, 1) := by decide +kernel
theorem dX2_leastWaterForAll_77 : decode cX2_leastWaterForAll 77 = .ok (.aload_n 0, 1) := by decide +kernel
theorem dX2_leastWaterForAll_78 : decode cX2_leastWaterForAll 78 = .ok (.getfield 9, 3) := by decide +kernel
theorem dX2_leastWaterForAll_81 : decode cX2_leastWaterForAll 81 = .ok (.iload 4, 2) := by decide +kernel
theorem dX2_leastWaterForAll_83 : decode cX2_leastWaterForAll 83 = .ok (.iaload, 1) := by decide +kernel
theorem dX2_leastWaterForAll_84 : decode cX2_leastWaterForAll 84 = .ok (.iload_n 1, 1) := by decide +kernel
theorem dX2_leastWaterForAll_85 : decode cX2_leastWaterForAll 85 = .ok (.iconst 0, 1) := by decide +kernel
theorem dX2_leastWaterForAll_86 : decode cX2_leastWaterForAll 86 = .ok (.invokevirtual 33, 3) := by decide +kernel
theorem dX2_leastWaterForAll_89 : decode cX2_leastWaterForAll 89 = .ok (.iload_n 2, 1) := by decide +kernel
theorem dX2_leastWaterForAll_90 : decode cX2_leastWaterForAll 90 = .ok (.if_icmp .ne 11, 3) := by decide +kernel
theorem dX2_leastWaterForAll_93 : decode cX2_leastWaterForAll 93 = .ok (.aload_n 0, 1) := by decide +kernel
theorem dX2_leastWaterForAll_94 : decode cX2_leastWaterForAll 94 = .ok (.getfield 9, 3) := by decide +kernel
theorem dX2_leastWaterForAll_97 : decode cX2_leastWaterForAll 97 = .ok (.iload 4, 2) := by decide +kernel
theorem dX2_leastWaterForAll_99 : decode cX2_leastWaterForAll 99 = .ok (.iaload, 1) := by decide +kernel
theorem dX2_leastWaterForAll_100 : decode cX2_leastWaterForAll 100 = .ok (.istore_n 3, 1) := by decide +kernel
theorem dX2_leastWaterForAll_101 : decode cX2_leastWaterForAll 101 = .ok (.iinc 4 1, 3) := by decide +kernel
theorem dX2_leastWaterForAll_104 : decode cX2_leastWaterForAll 104 = .ok (.goto (-66), 3) := by decide +kernel
theorem dX2_leastWaterForAll_107 : decode cX2_leastWaterForAll 107 = .ok (.iload_n 3, 1) := by decide +kernel
theorem dX2_leastWaterForAll_108 : decode cX2_leastWaterForAll 108 = .ok (.ireturn, 1) := by decide +kernel
theorem dX2_leavingBeside_0 : decode cX2_leavingBeside 0 = .ok (.iload_n 3, 1) := by decide +kernel
theorem dX2_leavingBeside_1 : decode cX2_leavingBeside 1 = .ok (.iload_n 1, 1) := by decide +kernel
theorem dX2_leavingBeside_2 : decode cX2_leavingBeside 2 = .ok (.invokestatic 36, 3) := by decide +kernel
theorem dX2_leavingBeside_5 : decode cX2_leavingBeside 5 = .ok (.iadd, 1) := by decide +kernel
theorem dX2_leavingBeside_6 : decode cX2_leavingBeside 6 = .ok (.istore 4, 2) := by decide +kernel
theorem dX2_leavingBeside_8 : decode cX2_leavingBeside 8 = .ok (.iload_n 1, 1) := by decide +kernel
theorem dX2_leavingBeside_9 : decode cX2_leavingBeside 9 = .ok (.istore 5, 2) := by decide +kernel
theorem dX2_leavingBeside_11 : decode cX2_leavingBeside 11 = .ok (.iconst 0, 1) := by decide +kernel
theorem dX2_leavingBeside_12 : decode cX2_leavingBeside 12 = .ok (.istore 6, 2) := by decide +kernel
theorem dX2_leavingBeside_14 : decode cX2_leavingBeside 14 = .ok (.iload 6, 2) := by decide +kernel
theorem dX2_leavingBeside_16 : decode cX2_leavingBeside 16 = .ok (.aload_n 0, 1) := by decide +kernel
theorem dX2_leavingBeside_17 : decode cX2_leavingBeside 17 = .ok (.getfield 18, 3) := by decide +kernel
theorem dX2_leavingBeside_20 : decode cX2_leavingBeside 20 = .ok (.if_icmp .ge 41, 3) := by decide +kernel
theorem dX2_leavingBeside_23 : decode cX2_leavingBeside 23 = .ok (.aload_n 0, 1) := by decide +kernel
theorem dX2_leavingBeside_24 : decode cX2_leavingBeside 24 = .ok (.getfield 9, 3) := by decide +kernel
theorem dX2_leavingBeside_27 : decode cX2_leavingBeside 27 = .ok (.iload 6, 2) := by decide +kernel
theorem dX2_leavingBeside_29 : decode cX2_leavingBeside 29 = .ok (.iaload, 1) := by decide +kernel
theorem dX2_leavingBeside_30 : decode cX2_leavingBeside 30 = .ok (.iload_n 2, 1) := by decide +kernel
theorem dX2_leavingBeside_31 : decode cX2_leavingBeside 31 = .ok (.if_icmp .le 15, 3) := by decide +kernel
theorem dX2_leavingBeside_34 : decode cX2_leavingBeside 34 = .ok (.aload_n 0, 1) := by decide +kernel
theorem dX2_leavingBeside_35 : decode cX2_leavingBeside 35 = .ok (.getfield 15, 3) := by decide +kernel
theorem dX2_leavingBeside_38 : decode cX2_leavingBeside 38 = .ok (.iload 6, 2) := by decide +kernel
theorem dX2_leavingBeside_40 : decode cX2_leavingBeside 40 = .ok (.iaload, 1) := by decide +kernel
theorem dX2_leavingBeside_41 : decode cX2_leavingBeside 41 = .ok (.iload 4, 2) := by decide +kernel
theorem dX2_leavingBeside_43 : decode cX2_leavingBeside 43 = .ok (.if_icmp .gt 12, 3) := by decide +kernel
theorem dX2_leavingBeside_46 : decode cX2_leavingBeside 46 = .ok (.iload 5, 2) := by decide +kernel
theorem dX2_leavingBeside_48 : decode cX2_leavingBeside 48 = .ok (.iconst 1, 1) := by decide +kernel
theorem dX2_leavingBeside_49 : decode cX2_leavingBeside 49 = .ok (.iload 6, 2) := by decide +kernel
theorem dX2_leavingBeside_51 : decode cX2_leavingBeside 51 = .ok (.ishl, 1) := by decide +kernel
theorem dX2_leavingBeside_52 : decode cX2_leavingBeside 52 = .ok (.ior, 1) := by decide +kernel
theorem dX2_leavingBeside_53 : decode cX2_leavingBeside 53 = .ok (.istore 5, 2) := by decide +kernel
theorem dX2_leavingBeside_55 : decode cX2_leavingBeside 55 = .ok (.iinc 6 1, 3) := by decide +kernel
theorem dX2_leavingBeside_58 : decode cX2_leavingBeside 58 = .ok (.goto (-44), 3) := by decide +kernel
theorem dX2_leavingBeside_61 : decode cX2_leavingBeside 61 = .ok (.iload 5, 2) := by decide +kernel
theorem dX2_leavingBeside_63 : decode cX2_leavingBeside 63 = .ok (.ireturn, 1) := by decide +kernel
theorem dX3_init_0 : decode cX3_init 0 = .ok (.aload_n 0, 1) := by decide +kernel
theorem dX3_init_1 : decode cX3_init 1 = .ok (.invokespecial 3, 3) := by decide +kernel
theorem dX3_init_4 : decode cX3_init 4 = .ok (.aload_n 0, 1) := by decide +kernel
theorem dX3_init_5 : decode cX3_init 5 = .ok (.sipush 128, 3) := by decide +kernel
theorem dX3_init_8 : decode cX3_init 8 = .ok (.newarray .long, 2) := by decide +kernel
theorem dX3_init_10 : decode cX3_init 10 = .ok (.putfield 9, 3) := by decide +kernel
theorem dX3_init_13 : decode cX3_init 13 = .ok (.aload_n 0, 1) := by decide +kernel
theorem dX3_init_14 : decode cX3_init 14 = .ok (.sipush 128, 3) := by decide +kernel
theorem dX3_init_17 : decode cX3_init 17 = .ok (.newarray .int, 2) := by decide +kernel
theorem dX3_init_19 : decode cX3_init 19 = .ok (.putfield 15, 3) := by decide +kernel
theorem dX3_init_22 : decode cX3_init 22 = .ok (.aload_n 0, 1) := by decide +kernel
theorem dX3_init_23 : decode cX3_init 23 = .ok (.sipush 128, 3) := by decide +kernel
theorem dX3_init_26 : decode cX3_init 26 = .ok (.newarray .long, 2) := by decide +kernel
theorem dX3_init_28 : decode cX3_init 28 = .ok (.putfield 19, 3) := by decide +kernel
theorem dX3_init_31 : decode cX3_init 31 = .ok (.aload_n 0, 1) := by decide +kernel
theorem dX3_init_32 : decode cX3_init 32 = .ok (.sipush 128, 3) := by decide +kernel
theorem dX3_init_35 : decode cX3_init 35 = .ok (.newarray .int, 2) := by decide +kernel
theorem dX3_init_37 : decode cX3_init 37 = .ok (.putfield 22, 3) := by decide +kernel
theorem dX3_init_40 : decode cX3_init 40 = .ok (.aload_n 0, 1) := by decide +kernel
theorem dX3_init_41 : decode cX3_init 41 = .ok (.bipush 9, 2) := by decide +kernel
theorem dX3_init_43 : decode cX3_init 43 = .ok (.newarray .long, 2) := by decide +kernel
theorem dX3_init_45 : decode cX3_init 45 = .ok (.putfield 25, 3) := by decide +kernel
theorem dX3_init_48 : decode cX3_init 48 = .ok (.return_, 1) := by decide +kernel
theorem dX3_go_0 : decode cX3_go 0 = .ok (.aload_n 0, 1) := by decide +kernel
theorem dX3_go_1 : decode cX3_go 1 = .ok (.iload_n 2, 1) := by decide +kernel
theorem dX3_go_2 : decode cX3_go 2 = .ok (.invokevirtual 28, 3) := by decide +kernel
theorem dX3_go_5 : decode cX3_go 5 = .ok (.iconst 0, 1) := by decide +kernel
theorem dX3_go_6 : decode cX3_go 6 = .ok (.istore 5, 2) := by decide +kernel
theorem dX3_go_8 : decode cX3_go 8 = .ok (.iload 5, 2) := by decide +kernel
theorem dX3_go_10 : decode cX3_go 10 = .ok (.iload 4, 2) := by decide +kernel
theorem dX3_go_12 : decode cX3_go 12 = .ok (.if_icmp .ge 15, 3) := by decide +kernel
theorem dX3_go_15 : decode cX3_go 15 = .ok (.aload_n 0, 1) := by decide +kernel
theorem dX3_go_16 : decode cX3_go 16 = .ok (.aload_n 1, 1) := by decide +kernel
theorem dX3_go_17 : decode cX3_go 17 = .ok (.iload_n 3, 1) := by decide +kernel
theorem dX3_go_18 : decode cX3_go 18 = .ok (.invokevirtual 32, 3) := by decide +kernel
theorem dX3_go_21 : decode cX3_go 21 = .ok (.iinc 5 1, 3) := by decide +kernel
theorem dX3_go_24 : decode cX3_go 24 = .ok (.goto (-16), 3) := by decide +kernel
theorem dX3_go_27 : decode cX3_go 27 = .ok (.return_, 1) := by decide +kernel
theorem dX3_timeArrivals_0 : decode cX3_timeArrivals 0 = .ok (.aload_n 0, 1) := by decide +kernel
theorem dX3_timeArrivals_1 : decode cX3_timeArrivals 1 = .ok (.iload_n 2, 1) := by decide +kernel
theorem dX3_timeArrivals_2 : decode cX3_timeArrivals 2 = .ok (.invokevirtual 28, 3) := by decide +kernel
theorem dX3_timeArrivals_5 : decode cX3_timeArrivals 5 = .ok (.iconst 0, 1) := by decide +kernel
theorem dX3_timeArrivals_6 : decode cX3_timeArrivals 6 = .ok (.istore 5, 2) := by decide +kernel
theorem dX3_timeArrivals_8 : decode cX3_timeArrivals 8 = .ok (.iload 5, 2) := by decide +kernel
theorem dX3_timeArrivals_10 : decode cX3_timeArrivals 10 = .ok (.bipush 8, 2) := by decide +kernel
theorem dX3_timeArrivals_12 : decode cX3_timeArrivals 12 = .ok (.if_icmp .gt 48, 3) := by decide +kernel
theorem dX3_timeArrivals_15 : decode cX3_timeArrivals 15 = .ok (.iload 5, 2) := by decide +kernel
theorem dX3_timeArrivals_17 : decode cX3_timeArrivals 17 = .ok (.ifCond .le 10, 3) := by decide +kernel
theorem dX3_timeArrivals_20 : decode cX3_timeArrivals 20 = .ok (.aload_n 0, 1) := by decide +kernel
theorem dX3_timeArrivals_21 : decode cX3_timeArrivals 21 = .ok (.aload_n 1, 1) := by decide +kernel
theorem dX3_timeArrivals_22 : decode cX3_timeArrivals 22 = .ok (.iload 4, 2) := by decide +kernel
theorem dX3_timeArrivals_24 : decode cX3_timeArrivals 24 = .ok (.invokevirtual 32, 3) := by decide +kernel
theorem dX3_timeArrivals_27 : decode cX3_timeArrivals 27 = .ok (.aload_n 0, 1) := by decide +kernel
theorem dX3_timeArrivals_28 : decode cX3_timeArrivals 28 = .ok (.getfield 25, 3) := by decide +kernel
theorem dX3_timeArrivals_31 : decode cX3_timeArrivals 31 = .ok (.iload 5, 2) := by decide +kernel
theorem dX3_timeArrivals_33 : decode cX3_timeArrivals 33 = .ok (.aload_n 0, 1) := by decide +kernel
theorem dX3_timeArrivals_34 : decode cX3_timeArrivals 34 = .ok (.getfield 9, 3) := by decide +kernel
theorem dX3_timeArrivals_37 : decode cX3_timeArrivals 37 = .ok (.iload_n 3, 1) := by decide +kernel
theorem dX3_timeArrivals_38 : decode cX3_timeArrivals 38 = .ok (.laload, 1) := by decide +kernel
theorem dX3_timeArrivals_39 : decode cX3_timeArrivals 39 = .ok (.aload_n 1, 1) := by decide +kernel
theorem dX3_timeArrivals_40 : decode cX3_timeArrivals 40 = .ok (.getfield 36, 3) := by decide +kernel
theorem dX3_timeArrivals_43 : decode cX3_timeArrivals 43 = .ok (.i2l, 1) := by decide +kernel
theorem dX3_timeArrivals_44 : decode cX3_timeArrivals 44 = .ok (.bipush 8, 2) := by decide +kernel
theorem dX3_timeArrivals_46 : decode cX3_timeArrivals 46 = .ok (.iload 5, 2) := by decide +kernel
theorem dX3_timeArrivals_48 : decode cX3_timeArrivals 48 = .ok (.isub, 1) := by decide +kernel
theorem dX3_timeArrivals_49 : decode cX3_timeArrivals 49 = .ok (.invokestatic 42, 3) := by decide +kernel
theorem dX3_timeArrivals_52 : decode cX3_timeArrivals 52 = .ok (.lmul, 1) := by decide +kernel
theorem dX3_timeArrivals_53 : decode cX3_timeArrivals 53 = .ok (.lastore, 1) := by decide +kernel
theorem dX3_timeArrivals_54 : decode cX3_timeArrivals 54 = .ok (.iinc 5 1, 3) := by decide +kernel
theorem dX3_timeArrivals_57 : decode cX3_timeArrivals 57 = .ok (.goto (-49), 3) := by decide +kernel
theorem dX3_timeArrivals_60 : decode cX3_timeArrivals 60 = .ok (.return_, 1) := by decide +kernel
theorem dX3_likeliestCell_0 : decode cX3_likeliestCell 0 = .ok (.iconst 0, 1) := by decide +kernel
theorem dX3_likeliestCell_1 : decode cX3_likeliestCell 1 = .ok (.istore_n 1, 1) := by decide +kernel
theorem dX3_likeliestCell_2 : decode cX3_likeliestCell 2 = .ok (.iconst 1, 1) := by decide +kernel
theorem dX3_likeliestCell_3 : decode cX3_likeliestCell 3 = .ok (.istore_n 2, 1) := by decide +kernel
theorem dX3_likeliestCell_4 : decode cX3_likeliestCell 4 = .ok (.iload_n 2, 1) := by decide +kernel
theorem dX3_likeliestCell_5 : decode cX3_likeliestCell 5 = .ok (.sipush 128, 3) := by decide +kernel
theorem dX3_likeliestCell_8 : decode cX3_likeliestCell 8 = .ok (.if_icmp .ge 27, 3) := by decide +kernel
theorem dX3_likeliestCell_11 : decode cX3_likeliestCell 11 = .ok (.aload_n 0, 1) := by decide +kernel
theorem dX3_likeliestCell_12 : decode cX3_likeliestCell 12 = .ok (.getfield 9, 3) := by decide +kernel
theorem dX3_likeliestCell_15 : decode cX3_likeliestCell 15 = .ok (.iload_n 2, 1) := by decide +kernel
theorem dX3_likeliestCell_16 : decode cX3_likeliestCell 16 = .ok (.laload, 1) := by decide +kernel
theorem dX3_likeliestCell_17 : decode cX3_likeliestCell 17 = .ok (.aload_n 0, 1) := by decide +kernel
theorem dX3_likeliestCell_18 : decode cX3_likeliestCell 18 = .ok (.getfield 9, 3) := by decide +kernel
theorem dX3_likeliestCell_21 : decode cX3_likeliestCell 21 = .ok (.iload_n 1, 1) := by decide +kernel
theorem dX3_likeliestCell_22 : decode cX3_likeliestCell 22 = .ok (.laload, 1) := by decide +kernel
theorem dX3_likeliestCell_23 : decode cX3_likeliestCell 23 = .ok (.lcmp, 1) := by decide +kernel
theorem dX3_likeliestCell_24 : decode cX3_likeliestCell 24 = .ok (.ifCond .le 5, 3) := by decide +kernel
theorem dX3_likeliestCell_27 : decode cX3_likeliestCell 27 = .ok (.iload_n 2, 1) := by decide +kernel
theorem dX3_likeliestCell_28 : decode cX3_likeliestCell 28 = .ok (.istore_n 1, 1) := by decide +kernel
theorem dX3_likeliestCell_29 : decode cX3_likeliestCell 29 = .ok (.iinc 2 1, 3) := by decide +kernel
theorem dX3_likeliestCell_32 : decode cX3_likeliestCell 32 = .ok (.goto (-28), 3) := by decide +kernel
theorem dX3_likeliestCell_35 : decode cX3_likeliestCell 35 = .ok (.iload_n 1, 1) := by decide +kernel
theorem dX3_likeliestCell_36 : decode cX3_likeliestCell 36 = .ok (.ireturn, 1) := by decide +kernel
theorem dX3_begin_0 : decode cX3_begin 0 = .ok (.iconst 0, 1) := by decide +kernel
theorem dX3_begin_1 : decode cX3_begin 1 = .ok (.istore_n 2, 1) := by decide +kernel
theorem dX3_begin_2 : decode cX3_begin 2 = .ok (.iload_n 2, 1) := by decide +kernel
theorem dX3_begin_3 : decode cX3_begin 3 = .ok (.sipush 128, 3) := by decide +kernel
theorem dX3_begin_6 : decode cX3_begin 6 = .ok (.if_icmp .ge 23, 3) := by decide +kernel
theorem dX3_begin_9 : decode cX3_begin 9 = .ok (.aload_n 0, 1) := by decide +kernel
theorem dX3_begin_10 : decode cX3_begin 10 = .ok (.getfield 9, 3) := by decide +kernel
theorem dX3_begin_13 : decode cX3_begin 13 = .ok (.iload_n 2, 1) := by decide +kernel
theorem dX3_begin_14 : decode cX3_begin 14 = .ok (.lconst 0, 1) := by decide +kernel
theorem dX3_begin_15 : decode cX3_begin 15 = .ok (.lastore, 1) := by decide +kernel
theorem dX3_begin_16 : decode cX3_begin 16 = .ok (.aload_n 0, 1) := by decide +kernel
theorem dX3_begin_17 : decode cX3_begin 17 = .ok (.getfield 15, 3) := by decide +kernel
theorem dX3_begin_20 : decode cX3_begin 20 = .ok (.iload_n 2, 1) := by decide +kernel
theorem dX3_begin_21 : decode cX3_begin 21 = .ok (.iconst 0, 1) := by decide +kernel
theorem dX3_begin_22 : decode cX3_begin 22 = .ok (.iastore, 1) := by decide +kernel
theorem dX3_begin_23 : decode cX3_begin 23 = .ok (.iinc 2 1, 3) := by decide +kernel
theorem dX3_begin_26 : decode cX3_begin 26 = .ok (.goto (-24), 3) := by decide +kernel
theorem dX3_begin_29 : decode cX3_begin 29 = .ok (.aload_n 0, 1) := by decide +kernel
theorem dX3_begin_30 : decode cX3_begin 30 = .ok (.getfield 9, 3) := by decide +kernel
theorem dX3_begin_33 : decode cX3_begin 33 = .ok (.iload_n 1, 1) := by decide +kernel
theorem dX3_begin_34 : decode cX3_begin 34 = .ok (.lconst 1, 1) := by decide +kernel
theorem dX3_begin_35 : decode cX3_begin 35 = .ok (.lastore, 1) := by decide +kernel
theorem dX3_begin_36 : decode cX3_begin 36 = .ok (.aload_n 0, 1) := by decide +kernel
theorem dX3_begin_37 : decode cX3_begin 37 = .ok (.getfield 15, 3) := by decide +kernel
theorem dX3_begin_40 : decode cX3_begin 40 = .ok (.iload_n 1, 1) := by decide +kernel
theorem dX3_begin_41 : decode cX3_begin 41 = .ok (.iconst 1, 1) := by decide +kernel
theorem dX3_begin_42 : decode cX3_begin 42 = .ok (.iastore, 1) := by decide +kernel
theorem dX3_begin_43 : decode cX3_begin 43 = .ok (.return_, 1) := by decide +kernel
theorem dX3_passHour_0 : decode cX3_passHour 0 = .ok (.iconst 0, 1) := by decide +kernel
theorem dX3_passHour_1 : decode cX3_passHour 1 = .ok (.istore_n 3, 1) := by decide +kernel
theorem dX3_passHour_2 : decode cX3_passHour 2 = .ok (.iload_n 3, 1) := by decide +kernel
theorem dX3_passHour_3 : decode cX3_passHour 3 = .ok (.sipush 128, 3) := by decide +kernel
theorem dX3_passHour_6 : decode cX3_passHour 6 = .ok (.if_icmp .ge 23, 3) := by decide +kernel
theorem dX3_passHour_9 : decode cX3_passHour 9 = .ok (.aload_n 0, 1) := by decide +kernel
theorem dX3_passHour_10 : decode cX3_passHour 10 = .ok (.getfield 19, 3) := by decide +kernel
theorem dX3_passHour_13 : decode cX3_passHour 13 = .ok (.iload_n 3, 1) := by decide +kernel
theorem dX3_passHour_14 : decode cX3_passHour 14 = .ok (.lconst 0, 1) := by decide +kernel
theorem dX3_passHour_15 : decode cX3_passHour 15 = .ok (.lastore, 1) := by decide +kernel
theorem dX3_passHour_16 : decode cX3_passHour 16 = .ok (.aload_n 0, 1) := by decide +kernel
theorem dX3_passHour_17 : decode cX3_passHour 17 = .ok (.getfield 22, 3) := by decide +kernel
theorem dX3_passHour_20 : decode cX3_passHour 20 = .ok (.iload_n 3, 1) := by decide +kernel
theorem dX3_passHour_21 : decode cX3_passHour 21 = .ok (.iconst 0, 1) := by decide +kernel
theorem dX3_passHour_22 : decode cX3_passHour 22 = .ok (.iastore, 1) := by decide +kernel
theorem dX3_passHour_23 : decode cX3_passHour 23 = .ok (.iinc 3 1, 3) := by decide +kernel
theorem dX3_passHour_26 : decode cX3_passHour 26 = .ok (.goto (-24), 3) := by decide +kernel
theorem dX3_passHour_29 : decode cX3_passHour 29 = .ok (.iconst 0, 1) := by decide +kernel
theorem dX3_passHour_30 : decode cX3_passHour 30 = .ok (.istore_n 3, 1) := by decide +kernel
theorem dX3_passHour_31 : decode cX3_passHour 31 = .ok (.iload_n 3, 1) := by decide +kernel
theorem dX3_passHour_32 : decode cX3_passHour 32 = .ok (.sipush 128, 3) := by decide +kernel
theorem dX3_passHour_35 : decode cX3_passHour 35 = .ok (.if_icmp .ge 25, 3) := by decide +kernel
theorem dX3_passHour_38 : decode cX3_passHour 38 = .ok (.aload_n 0, 1) := by decide +kernel
theorem dX3_passHour_39 : decode cX3_passHour 39 = .ok (.getfield 15, 3) := by decide +kernel
theorem dX3_passHour_42 : decode cX3_passHour 42 = .ok (.iload_n 3, 1) := by decide +kernel
theorem dX3_passHour_43 : decode cX3_passHour 43 = .ok (.iaload, 1) := by decide +kernel
theorem dX3_passHour_44 : decode cX3_passHour 44 = .ok (.ifCond .le 10, 3) := by decide +kernel
theorem dX3_passHour_47 : decode cX3_passHour 47 = .ok (.aload_n 0, 1) := by decide +kernel
theorem dX3_passHour_48 : decode cX3_passHour 48 = .ok (.aload_n 1, 1) := by decide +kernel
theorem dX3_passHour_49 : decode cX3_passHour 49 = .ok (.iload_n 3, 1) := by decide +kernel
theorem dX3_passHour_50 : decode cX3_passHour 50 = .ok (.iload_n 2, 1) := by decide +kernel
theorem dX3_passHour_51 : decode cX3_passHour 51 = .ok (.invokevirtual 46, 3) := by decide +kernel
theorem dX3_passHour_54 : decode cX3_passHour 54 = .ok (.iinc 3 1, 3) := by decide +kernel
theorem dX3_passHour_57 : decode cX3_passHour 57 = .ok (.goto (-26), 3) := by decide +kernel
theorem dX3_passHour_60 : decode cX3_passHour 60 = .ok (.aload_n 0, 1) := by decide +kernel
theorem dX3_passHour_61 : decode cX3_passHour 61 = .ok (.getfield 9, 3) := by decide +kernel
theorem dX3_passHour_64 : decode cX3_passHour 64 = .ok (.astore_n 3, 1) := by decide +kernel
theorem dX3_passHour_65 : decode cX3_passHour 65 = .ok (.aload_n 0, 1) := by decide +kernel
theorem dX3_passHour_66 : decode cX3_passHour 66 = .ok (.aload_n 0, 1) := by decide +kernel
theorem dX3_passHour_67 : decode cX3_passHour 67 = .ok (.getfield 19, 3) := by decide +kernel
theorem dX3_passHour_70 : decode cX3_passHour 70 = .ok (.putfield 9, 3) := by decide +kernel
theorem dX3_passHour_73 : decode cX3_passHour 73 = .ok (.aload_n 0, 1) := by decide +kernel
theorem dX3_passHour_74 : decode cX3_passHour 74 = .ok (.aload_n 3, 1) := by decide +kernel
theorem dX3_passHour_75 : decode cX3_passHour 75 = .ok (.putfield 19, 3) := by decide +kernel
theorem dX3_passHour_78 : decode cX3_passHour 78 = .ok (.aload_n 0, 1) := by decide +kernel
theorem dX3_passHour_79 : decode cX3_passHour 79 = .ok (.getfield 15, 3) := by decide +kernel
theorem dX3_passHour_82 : decode cX3_passHour 82 = .ok (.astore 4, 2) := by decide +kernel
theorem dX3_passHour_84 : decode cX3_passHour 84 = .ok (.aload_n 0, 1) := by decide +kernel
theorem dX3_passHour_85 : decode cX3_passHour 85 = .ok (.aload_n 0, 1) := by decide +kernel
theorem dX3_passHour_86 : decode cX3_passHour 86 = .ok (.getfield 22, 3) := by decide +kernel
theorem dX3_passHour_89 : decode cX3_passHour 89 = .ok (.putfield 15, 3) := by decide +kernel
theorem dX3_passHour_92 : decode cX3_passHour 92 = .ok (.aload_n 0, 1) := by decide +kernel
theorem dX3_passHour_93 : decode cX3_passHour 93 = .ok (.aload 4, 2) := by decide +kernel
theorem dX3_passHour_95 : decode cX3_passHour 95 = .ok (.putfield 22, 3) := by decide +kernel
theorem dX3_passHour_98 : decode cX3_passHour 98 = .ok (.return_, 1) := by decide +kernel
theorem dX3_spread_0 : decode cX3_spread 0 = .ok (.aload_n 1, 1) := by decide +kernel
theorem dX3_spread_1 : decode cX3_spread 1 = .ok (.iload_n 2, 1) := by decide +kernel
theorem dX3_spread_2 : decode cX3_spread 2 = .ok (.invokevirtual 50, 3) := by decide +kernel
theorem dX3_spread_5 : decode cX3_spread 5 = .ok (.istore 4, 2) := by decide +kernel
theorem dX3_spread_7 : decode cX3_spread 7 = .ok (.iconst 0, 1) := by decide +kernel
theorem dX3_spread_8 : decode cX3_spread 8 = .ok (.istore 5, 2) := by decide +kernel
theorem dX3_spread_10 : decode cX3_spread 10 = .ok (.iload 5, 2) := by decide +kernel
theorem dX3_spread_12 : decode cX3_spread 12 = .ok (.aload_n 1, 1) := by decide +kernel
theorem dX3_spread_13 : decode cX3_spread 13 = .ok (.getfield 54, 3) := by decide +kernel
theorem dX3_spread_16 : decode cX3_spread 16 = .ok (.if_icmp .ge 68, 3) := by decide +kernel
theorem dX3_spread_19 : decode cX3_spread 19 = .ok (.iload 4, 2) := by decide +kernel
theorem dX3_spread_21 : decode cX3_spread 21 = .ok (.ifCond .eq 7, 3) := by decide +kernel
theorem dX3_spread_24 : decode cX3_spread 24 = .ok (.iload_n 2, 1) := by decide +kernel
theorem dX3_spread_25 : decode cX3_spread 25 = .ok (.goto 11, 3) := by decide +kernel
theorem dX3_spread_28 : decode cX3_spread 28 = .ok (.aload_n 1, 1) := by decide +kernel
theorem dX3_spread_29 : decode cX3_spread 29 = .ok (.iload_n 2, 1) := by decide +kernel
theorem dX3_spread_30 : decode cX3_spread 30 = .ok (.iload 5, 2) := by decide +kernel
theorem dX3_spread_32 : decode cX3_spread 32 = .ok (.iload_n 3, 1) := by decide +kernel
theorem dX3_spread_33 : decode cX3_spread 33 = .ok (.invokevirtual 57, 3) := by decide +kernel
theorem dX3_spread_36 : decode cX3_spread 36 = .ok (.istore 6, 2) := by decide +kernel
theorem dX3_spread_38 : decode cX3_spread 38 = .ok (.aload_n 0, 1) := by decide +kernel
theorem dX3_spread_39 : decode cX3_spread 39 = .ok (.getfield 19, 3) := by decide +kernel
theorem dX3_spread_42 : decode cX3_spread 42 = .ok (.iload 6, 2) := by decide +kernel
theorem dX3_spread_44 : decode cX3_spread 44 = .ok (.dup2, 1) := by decide +kernel
theorem dX3_spread_45 : decode cX3_spread 45 = .ok (.laload, 1) := by decide +kernel
theorem dX3_spread_46 : decode cX3_spread 46 = .ok (.aload_n 0, 1) := by decide +kernel
theorem dX3_spread_47 : decode cX3_spread 47 = .ok (.getfield 9, 3) := by decide +kernel
theorem dX3_spread_50 : decode cX3_spread 50 = .ok (.iload_n 2, 1) := by decide +kernel
theorem dX3_spread_51 : decode cX3_spread 51 = .ok (.laload, 1) := by decide +kernel
theorem dX3_spread_52 : decode cX3_spread 52 = .ok (.aload_n 1, 1) := by decide +kernel
theorem dX3_spread_53 : decode cX3_spread 53 = .ok (.iload 5, 2) := by decide +kernel
theorem dX3_spread_55 : decode cX3_spread 55 = .ok (.invokevirtual 61, 3) := by decide +kernel
theorem dX3_spread_58 : decode cX3_spread 58 = .ok (.i2l, 1) := by decide +kernel
theorem dX3_spread_59 : decode cX3_spread 59 = .ok (.lmul, 1) := by decide +kernel
theorem dX3_spread_60 : decode cX3_spread 60 = .ok (.ladd, 1) := by decide +kernel
theorem dX3_spread_61 : decode cX3_spread 61 = .ok (.lastore, 1) := by decide +kernel
theorem dX3_spread_62 : decode cX3_spread 62 = .ok (.aload_n 0, 1) := by decide +kernel
theorem dX3_spread_63 : decode cX3_spread 63 = .ok (.getfield 22, 3) := by decide +kernel
theorem dX3_spread_66 : decode cX3_spread 66 = .ok (.iload 6, 2) := by decide +kernel
theorem dX3_spread_68 : decode cX3_spread 68 = .ok (.dup2, 1) := by decide +kernel
theorem dX3_spread_69 : decode cX3_spread 69 = .ok (.iaload, 1) := by decide +kernel
theorem dX3_spread_70 : decode cX3_spread 70 = .ok (.aload_n 0, 1) := by decide +kernel
theorem dX3_spread_71 : decode cX3_spread 71 = .ok (.getfield 15, 3) := by decide +kernel
theorem dX3_spread_74 : decode cX3_spread 74 = .ok (.iload_n 2, 1) := by decide +kernel
theorem dX3_spread_75 : decode cX3_spread 75 = .ok (.iaload, 1) := by decide +kernel
theorem dX3_spread_76 : decode cX3_spread 76 = .ok (.iadd, 1) := by decide +kernel
theorem dX3_spread_77 : decode cX3_spread 77 = .ok (.iastore, 1) := by decide +kernel
theorem dX3_spread_78 : decode cX3_spread 78 = .ok (.iinc 5 1, 3) := by decide +kernel
theorem dX3_spread_81 : decode cX3_spread 81 = .ok (.goto (-71), 3) := by decide +kernel
theorem dX3_spread_84 : decode cX3_spread 84 = .ok (.return_, 1) := by decide +kernel
theorem dX4_init_0 : decode cX4_init 0 = .ok (.aload_n 0, 1) := by decide +kernel
theorem dX4_init_1 : decode cX4_init 1 = .ok (.invokespecial 3, 3) := by decide +kernel
theorem dX4_init_4 : decode cX4_init 4 = .ok (.return_, 1) := by decide +kernel
theorem dX4_clear_0 : decode cX4_clear 0 = .ok (.aload_n 0, 1) := by decide +kernel
theorem dX4_clear_1 : decode cX4_clear 1 = .ok (.iconst 0, 1) := by decide +kernel
theorem dX4_clear_2 : decode cX4_clear 2 = .ok (.iconst 0, 1) := by decide +kernel
theorem dX4_clear_3 : decode cX4_clear 3 = .ok (.iconst 0, 1) := by decide +kernel
theorem dX4_clear_4 : decode cX4_clear 4 = .ok (.iconst 0, 1) := by decide +kernel
theorem dX4_clear_5 : decode cX4_clear 5 = .ok (.invokevirtual 9, 3) := by decide +kernel
theorem dX4_clear_8 : decode cX4_clear 8 = .ok (.return_, 1) := by decide +kernel
theorem dX4_become_0 : decode cX4_become 0 = .ok (.aload_n 0, 1) := by decide +kernel
theorem dX4_become_1 : decode cX4_become 1 = .ok (.aload_n 1, 1) := by decide +kernel
theorem dX4_become_2 : decode cX4_become 2 = .ok (.getfield 15, 3) := by decide +kernel
theorem dX4_become_5 : decode cX4_become 5 = .ok (.aload_n 1, 1) := by decide +kernel
theorem dX4_become_6 : decode cX4_become 6 = .ok (.getfield 19, 3) := by decide +kernel
theorem dX4_become_9 : decode cX4_become 9 = .ok (.aload_n 1, 1) := by decide +kernel
theorem dX4_become_10 : decode cX4_become 10 = .ok (.getfield 22, 3) := by decide +kernel
theorem dX4_become_13 : decode cX4_become 13 = .ok (.aload_n 1, 1) := by decide +kernel
theorem dX4_become_14 : decode cX4_become 14 = .ok (.getfield 25, 3) := by decide +kernel
theorem dX4_become_17 : decode cX4_become 17 = .ok (.invokevirtual 9, 3) := by decide +kernel
theorem dX4_become_20 : decode cX4_become 20 = .ok (.aload_n 0, 1) := by decide +kernel
theorem dX4_become_21 : decode cX4_become 21 = .ok (.aload_n 1, 1) := by decide +kernel
theorem dX4_become_22 : decode cX4_become 22 = .ok (.getfield 28, 3) := by decide +kernel
theorem dX4_become_25 : decode cX4_become 25 = .ok (.putfield 28, 3) := by decide +kernel
theorem dX4_become_28 : decode cX4_become 28 = .ok (.aload_n 0, 1) := by decide +kernel
theorem dX4_become_29 : decode cX4_become 29 = .ok (.aload_n 1, 1) := by decide +kernel
theorem dX4_become_30 : decode cX4_become 30 = .ok (.getfield 32, 3) := by decide +kernel
theorem dX4_become_33 : decode cX4_become 33 = .ok (.putfield 32, 3) := by decide +kernel
theorem dX4_become_36 : decode cX4_become 36 = .ok (.aload_n 0, 1) := by decide +kernel
theorem dX4_become_37 : decode cX4_become 37 = .ok (.aload_n 1, 1) := by decide +kernel
theorem dX4_become_38 : decode cX4_become 38 = .ok (.getfield 35, 3) := by decide +kernel
theorem dX4_become_41 : decode cX4_become 41 = .ok (.putfield 35, 3) := by decide +kernel
theorem dX4_become_44 : decode cX4_become 44 = .ok (.aload_n 0, 1) := by decide +kernel
theorem dX4_become_45 : decode cX4_become 45 = .ok (.aload_n 1, 1) := by decide +kernel
theorem dX4_become_46 : decode cX4_become 46 = .ok (.getfield 38, 3) := by decide +kernel
theorem dX4_become_49 : decode cX4_become 49 = .ok (.putfield 38, 3) := by decide +kernel
theorem dX4_become_52 : decode cX4_become 52 = .ok (.aload_n 0, 1) := by decide +kernel
theorem dX4_become_53 : decode cX4_become 53 = .ok (.aload_n 1, 1) := by decide +kernel
theorem dX4_become_54 : decode cX4_become 54 = .ok (.getfield 41, 3) := by decide +kernel
theorem dX4_become_57 : decode cX4_become 57 = .ok (.putfield 41, 3) := by decide +kernel
theorem dX4_become_60 : decode cX4_become 60 = .ok (.return_, 1) := by decide +kernel
theorem dX4_build_0 : decode cX4_build 0 = .ok (.aload_n 0, 1) := by decide +kernel
theorem dX4_build_1 : decode cX4_build 1 = .ok (.iload_n 1, 1) := by decide +kernel
theorem dX4_build_2 : decode cX4_build 2 = .ok (.putfield 15, 3) := by decide +kernel
theorem dX4_build_5 : decode cX4_build 5 = .ok (.aload_n 0, 1) := by decide +kernel
theorem dX4_build_6 : decode cX4_build 6 = .ok (.iload_n 2, 1) := by decide +kernel
theorem dX4_build_7 : decode cX4_build 7 = .ok (.putfield 19, 3) := by decide +kernel
theorem dX4_build_10 : decode cX4_build 10 = .ok (.aload_n 0, 1) := by decide +kernel
theorem dX4_build_11 : decode cX4_build 11 = .ok (.iload_n 3, 1) := by decide +kernel
theorem dX4_build_12 : decode cX4_build 12 = .ok (.putfield 22, 3) := by decide +kernel
theorem dX4_build_15 : decode cX4_build 15 = .ok (.aload_n 0, 1) := by decide +kernel
theorem dX4_build_16 : decode cX4_build 16 = .ok (.iload 4, 2) := by decide +kernel
theorem dX4_build_18 : decode cX4_build 18 = .ok (.putfield 25, 3) := by decide +kernel
theorem dX4_build_21 : decode cX4_build 21 = .ok (.aload_n 0, 1) := by decide +kernel
theorem dX4_build_22 : decode cX4_build 22 = .ok (.iconst 0, 1) := by decide +kernel
theorem dX4_build_23 : decode cX4_build 23 = .ok (.iconst 0, 1) := by decide +kernel
theorem dX4_build_24 : decode cX4_build 24 = .ok (.invokevirtual 44, 3) := by decide +kernel
theorem dX4_build_27 : decode cX4_build 27 = .ok (.aload_n 0, 1) := by decide +kernel
theorem dX4_build_28 : decode cX4_build 28 = .ok (.iconst 0, 1) := by decide +kernel
theorem dX4_build_29 : decode cX4_build 29 = .ok (.putfield 28, 3) := by decide +kernel
theorem dX4_build_32 : decode cX4_build 32 = .ok (.return_, 1) := by decide +kernel
theorem dX4_launch_0 : decode cX4_launch 0 = .ok (.aload_n 0, 1) := by decide +kernel
theorem dX4_launch_1 : decode cX4_launch 1 = .ok (.iconst 1, 1) := by decide +kernel
theorem dX4_launch_2 : decode cX4_launch 2 = .ok (.putfield 28, 3) := by decide +kernel
theorem dX4_launch_5 : decode cX4_launch 5 = .ok (.aload_n 0, 1) := by decide +kernel
theorem dX4_launch_6 : decode cX4_launch 6 = .ok (.iload_n 1, 1) := by decide +kernel
theorem dX4_launch_7 : decode cX4_launch 7 = .ok (.putfield 32, 3) := by decide +kernel
theorem dX4_launch_10 : decode cX4_launch 10 = .ok (.aload_n 0, 1) := by decide +kernel
theorem dX4_launch_11 : decode cX4_launch 11 = .ok (.iload_n 2, 1) := by decide +kernel
theorem dX4_launch_12 : decode cX4_launch 12 = .ok (.putfield 35, 3) := by decide +kernel
theorem dX4_launch_15 : decode cX4_launch 15 = .ok (.aload_n 0, 1) := by decide +kernel
theorem dX4_launch_16 : decode cX4_launch 16 = .ok (.iconst 0, 1) := by decide +kernel
theorem dX4_launch_17 : decode cX4_launch 17 = .ok (.putfield 38, 3) := by decide +kernel
theorem dX4_launch_20 : decode cX4_launch 20 = .ok (.aload_n 0, 1) := by decide +kernel
theorem dX4_launch_21 : decode cX4_launch 21 = .ok (.iconst 0, 1) := by decide +kernel
theorem dX4_launch_22 : decode cX4_launch 22 = .ok (.putfield 41, 3) := by decide +kernel
theorem dX4_launch_25 : decode cX4_launch 25 = .ok (.return_, 1) := by decide +kernel
theorem dX4_isSunk_0 : decode cX4_isSunk 0 = .ok (.aload_n 0, 1) := by decide +kernel
theorem dX4_isSunk_1 : decode cX4_isSunk 1 = .ok (.getfield 35, 3) := by decide +kernel
theorem dX4_isSunk_4 : decode cX4_isSunk 4 = .ok (.aload_n 0, 1) := by decide +kernel
theorem dX4_isSunk_5 : decode cX4_isSunk 5 = .ok (.getfield 25, 3) := by decide +kernel
theorem dX4_isSunk_8 : decode cX4_isSunk 8 = .ok (.if_icmp .lt 7, 3) := by decide +kernel
theorem dX4_isSunk_11 : decode cX4_isSunk 11 = .ok (.iconst 1, 1) := by decide +kernel
theorem dX4_isSunk_12 : decode cX4_isSunk 12 = .ok (.goto 4, 3) := by decide +kernel
theorem dX4_isSunk_15 : decode cX4_isSunk 15 = .ok (.iconst 0, 1) := by decide +kernel
theorem dX4_isSunk_16 : decode cX4_isSunk 16 = .ok (.ireturn, 1) := by decide +kernel
theorem dX4_passHour_0 : decode cX4_passHour 0 = .ok (.aload_n 0, 1) := by decide +kernel
theorem dX4_passHour_1 : decode cX4_passHour 1 = .ok (.dup, 1) := by decide +kernel
theorem dX4_passHour_2 : decode cX4_passHour 2 = .ok (.getfield 38, 3) := by decide +kernel
theorem dX4_passHour_5 : decode cX4_passHour 5 = .ok (.iconst 1, 1) := by decide +kernel
theorem dX4_passHour_6 : decode cX4_passHour 6 = .ok (.iadd, 1) := by decide +kernel
theorem dX4_passHour_7 : decode cX4_passHour 7 = .ok (.putfield 38, 3) := by decide +kernel
theorem dX4_passHour_10 : decode cX4_passHour 10 = .ok (.aload_n 0, 1) := by decide +kernel
theorem dX4_passHour_11 : decode cX4_passHour 11 = .ok (.invokevirtual 48, 3) := by decide +kernel
theorem dX4_passHour_14 : decode cX4_passHour 14 = .ok (.ifCond .eq 4, 3) := by decide +kernel
theorem dX4_passHour_17 : decode cX4_passHour 17 = .ok (.return_, 1) := by decide +kernel
theorem dX4_passHour_18 : decode cX4_passHour 18 = .ok (.aload_n 0, 1) := by decide +kernel
theorem dX4_passHour_19 : decode cX4_passHour 19 = .ok (.getfield 41, 3) := by decide +kernel
theorem dX4_passHour_22 : decode cX4_passHour 22 = .ok (.ifCond .ne 32, 3) := by decide +kernel
theorem dX4_passHour_25 : decode cX4_passHour 25 = .ok (.aload_n 0, 1) := by decide +kernel
theorem dX4_passHour_26 : decode cX4_passHour 26 = .ok (.aload_n 1, 1) := by decide +kernel
theorem dX4_passHour_27 : decode cX4_passHour 27 = .ok (.aload_n 0, 1) := by decide +kernel
theorem dX4_passHour_28 : decode cX4_passHour 28 = .ok (.getfield 32, 3) := by decide +kernel
theorem dX4_passHour_31 : decode cX4_passHour 31 = .ok (.iload_n 2, 1) := by decide +kernel
theorem dX4_passHour_32 : decode cX4_passHour 32 = .ok (.aload_n 0, 1) := by decide +kernel
theorem dX4_passHour_33 : decode cX4_passHour 33 = .ok (.getfield 15, 3) := by decide +kernel
theorem dX4_passHour_36 : decode cX4_passHour 36 = .ok (.invokevirtual 52, 3) := by decide +kernel
theorem dX4_passHour_39 : decode cX4_passHour 39 = .ok (.putfield 32, 3) := by decide +kernel
theorem dX4_passHour_42 : decode cX4_passHour 42 = .ok (.aload_n 0, 1) := by decide +kernel
theorem dX4_passHour_43 : decode cX4_passHour 43 = .ok (.aload_n 1, 1) := by decide +kernel
theorem dX4_passHour_44 : decode cX4_passHour 44 = .ok (.aload_n 0, 1) := by decide +kernel
theorem dX4_passHour_45 : decode cX4_passHour 45 = .ok (.getfield 32, 3) := by decide +kernel
theorem dX4_passHour_48 : decode cX4_passHour 48 = .ok (.invokevirtual 58, 3) := by decide +kernel
theorem dX4_passHour_51 : decode cX4_passHour 51 = .ok (.putfield 41, 3) := by decide +kernel
theorem dX4_passHour_54 : decode cX4_passHour 54 = .ok (.aload_n 0, 1) := by decide +kernel
theorem dX4_passHour_55 : decode cX4_passHour 55 = .ok (.aload_n 0, 1) := by decide +kernel
theorem dX4_passHour_56 : decode cX4_passHour 56 = .ok (.aload_n 0, 1) := by decide +kernel
theorem dX4_passHour_57 : decode cX4_passHour 57 = .ok (.getfield 35, 3) := by decide +kernel
theorem dX4_passHour_60 : decode cX4_passHour 60 = .ok (.aload_n 0, 1) := by decide +kernel
theorem dX4_passHour_61 : decode cX4_passHour 61 = .ok (.getfield 19, 3) := by decide +kernel
theorem dX4_passHour_64 : decode cX4_passHour 64 = .ok (.iadd, 1) := by decide +kernel
theorem dX4_passHour_65 : decode cX4_passHour 65 = .ok (.iload_n 3, 1) := by decide +kernel
theorem dX4_passHour_66 : decode cX4_passHour 66 = .ok (.ifCond .eq 10, 3) := by decide +kernel
theorem dX4_passHour_69 : decode cX4_passHour 69 = .ok (.aload_n 0, 1) := by decide +kernel
theorem dX4_passHour_70 : decode cX4_passHour 70 = .ok (.getfield 22, 3) := by decide +kernel
theorem dX4_passHour_73 : decode cX4_passHour 73 = .ok (.goto 4, 3) := by decide +kernel
theorem dX4_passHour_76 : decode cX4_passHour 76 = .ok (.iconst 0, 1) := by decide +kernel
theorem dX4_passHour_77 : decode cX4_passHour 77 = .ok (.isub, 1) := by decide +kernel
theorem dX4_passHour_78 : decode cX4_passHour 78 = .ok (.invokevirtual 62, 3) := by decide +kernel
theorem dX4_passHour_81 : decode cX4_passHour 81 = .ok (.putfield 35, 3) := by decide +kernel
theorem dX4_passHour_84 : decode cX4_passHour 84 = .ok (.return_, 1) := by decide +kernel
theorem dX4_waterByRod_0 : decode cX4_waterByRod 0 = .ok (.aload_n 0, 1) := by decide +kernel
theorem dX4_waterByRod_1 : decode cX4_waterByRod 1 = .ok (.iload_n 3, 1) := by decide +kernel
theorem dX4_waterByRod_2 : decode cX4_waterByRod 2 = .ok (.ifCond .ne 9, 3) := by decide +kernel
theorem dX4_waterByRod_5 : decode cX4_waterByRod 5 = .ok (.iload_n 1, 1) := by decide +kernel
theorem dX4_waterByRod_6 : decode cX4_waterByRod 6 = .ok (.iload_n 2, 1) := by decide +kernel
theorem dX4_waterByRod_7 : decode cX4_waterByRod 7 = .ok (.isub, 1) := by decide +kernel
theorem dX4_waterByRod_8 : decode cX4_waterByRod 8 = .ok (.goto 6, 3) := by decide +kernel
theorem dX4_waterByRod_11 : decode cX4_waterByRod 11 = .ok (.iload_n 1, 1) := by decide +kernel
theorem dX4_waterByRod_12 : decode cX4_waterByRod 12 = .ok (.iload_n 2, 1) := by decide +kernel
theorem dX4_waterByRod_13 : decode cX4_waterByRod 13 = .ok (.iadd, 1) := by decide +kernel
theorem dX4_waterByRod_14 : decode cX4_waterByRod 14 = .ok (.invokevirtual 62, 3) := by decide +kernel
theorem dX4_waterByRod_17 : decode cX4_waterByRod 17 = .ok (.ireturn, 1) := by decide +kernel
theorem dX4_hoursToDeep_0 : decode cX4_hoursToDeep 0 = .ok (.iload_n 1, 1) := by decide +kernel
theorem dX4_hoursToDeep_1 : decode cX4_hoursToDeep 1 = .ok (.aload_n 0, 1) := by decide +kernel
theorem dX4_hoursToDeep_2 : decode cX4_hoursToDeep 2 = .ok (.getfield 25, 3) := by decide +kernel
theorem dX4_hoursToDeep_5 : decode cX4_hoursToDeep 5 = .ok (.if_icmp .lt 5, 3) := by decide +kernel
theorem dX4_hoursToDeep_8 : decode cX4_hoursToDeep 8 = .ok (.iconst 0, 1) := by decide +kernel
theorem dX4_hoursToDeep_9 : decode cX4_hoursToDeep 9 = .ok (.ireturn, 1) := by decide +kernel
theorem dX4_hoursToDeep_10 : decode cX4_hoursToDeep 10 = .ok (.aload_n 0, 1) := by decide +kernel
theorem dX4_hoursToDeep_11 : decode cX4_hoursToDeep 11 = .ok (.getfield 19, 3) := by decide +kernel
theorem dX4_hoursToDeep_14 : decode cX4_hoursToDeep 14 = .ok (.ifCond .gt 8, 3) := by decide +kernel
theorem dX4_hoursToDeep_17 : decode cX4_hoursToDeep 17 = .ok (.ldc 66, 2) := by decide +kernel
theorem dX4_hoursToDeep_19 : decode cX4_hoursToDeep 19 = .ok (.goto 21, 3) := by decide +kernel
theorem dX4_hoursToDeep_22 : decode cX4_hoursToDeep 22 = .ok (.aload_n 0, 1) := by decide +kernel
theorem dX4_hoursToDeep_23 : decode cX4_hoursToDeep 23 = .ok (.getfield 25, 3) := by decide +kernel
theorem dX4_hoursToDeep_26 : decode cX4_hoursToDeep 26 = .ok (.iload_n 1, 1) := by decide +kernel
theorem dX4_hoursToDeep_27 : decode cX4_hoursToDeep 27 = .ok (.isub, 1) := by decide +kernel
theorem dX4_hoursToDeep_28 : decode cX4_hoursToDeep 28 = .ok (.aload_n 0, 1) := by decide +kernel
theorem dX4_hoursToDeep_29 : decode cX4_hoursToDeep 29 = .ok (.getfield 19, 3) := by decide +kernel
theorem dX4_hoursToDeep_32 : decode cX4_hoursToDeep 32 = .ok (.iadd, 1) := by decide +kernel
theorem dX4_hoursToDeep_33 : decode cX4_hoursToDeep 33 = .ok (.iconst 1, 1) := by decide +kernel
theorem dX4_hoursToDeep_34 : decode cX4_hoursToDeep 34 = .ok (.isub, 1) := by decide +kernel
theorem dX4_hoursToDeep_35 : decode cX4_hoursToDeep 35 = .ok (.aload_n 0, 1) := by decide +kernel
theorem dX4_hoursToDeep_36 : decode cX4_hoursToDeep 36 = .ok (.getfield 19, 3) := by decide +kernel
theorem dX4_hoursToDeep_39 : decode cX4_hoursToDeep 39 = .ok (.idiv, 1) := by decide +kernel
theorem dX4_hoursToDeep_40 : decode cX4_hoursToDeep 40 = .ok (.ireturn, 1) := by decide +kernel
theorem dX4_held_0 : decode cX4_held 0 = .ok (.iconst 0, 1) := by decide +kernel
theorem dX4_held_1 : decode cX4_held 1 = .ok (.aload_n 0, 1) := by decide +kernel
theorem dX4_held_2 : decode cX4_held 2 = .ok (.getfield 25, 3) := by decide +kernel
theorem dX4_held_5 : decode cX4_held 5 = .ok (.iload_n 1, 1) := by decide +kernel
theorem dX4_held_6 : decode cX4_held 6 = .ok (.invokestatic 67, 3) := by decide +kernel
theorem dX4_held_9 : decode cX4_held 9 = .ok (.invokestatic 73, 3) := by decide +kernel
theorem dX4_held_12 : decode cX4_held 12 = .ok (.ireturn, 1) := by decide +kernel
theorem dX5_init_0 : decode cX5_init 0 = .ok (.aload_n 0, 1) := by decide +kernel
theorem dX5_init_1 : decode cX5_init 1 = .ok (.invokespecial 3, 3) := by decide +kernel
theorem dX5_init_4 : decode cX5_init 4 = .ok (.aload_n 0, 1) := by decide +kernel
theorem dX5_init_5 : decode cX5_init 5 = .ok (.new 9, 3) := by decide +kernel
theorem dX5_init_8 : decode cX5_init 8 = .ok (.dup, 1) := by decide +kernel
theorem dX5_init_9 : decode cX5_init 9 = .ok (.aload_n 1, 1) := by decide +kernel
theorem dX5_init_10 : decode cX5_init 10 = .ok (.invokespecial 11, 3) := by decide +kernel
theorem dX5_init_13 : decode cX5_init 13 = .ok (.putfield 14, 3) := by decide +kernel
theorem dX5_init_16 : decode cX5_init 16 = .ok (.return_, 1) := by decide +kernel
theorem dX5_readInto_0 : decode cX5_readInto 0 = .ok (.aload_n 0, 1) := by decide +kernel
theorem dX5_readInto_1 : decode cX5_readInto 1 = .ok (.iconst 0, 1) := by decide +kernel
theorem dX5_readInto_2 : decode cX5_readInto 2 = .ok (.putfield 20, 3) := by decide +kernel
theorem dX5_readInto_5 : decode cX5_readInto 5 = .ok (.aload_n 0, 1) := by decide +kernel
theorem dX5_readInto_6 : decode cX5_readInto 6 = .ok (.iconst 0, 1) := by decide +kernel
theorem dX5_readInto_7 : decode cX5_readInto 7 = .ok (.putfield 24, 3) := by decide +kernel
theorem dX5_readInto_10 : decode cX5_readInto 10 = .ok (.aload_n 1, 1) := by decide +kernel
theorem dX5_readInto_11 : decode cX5_readInto 11 = .ok (.invokevirtual 27, 3) := by decide +kernel
theorem dX5_readInto_14 : decode cX5_readInto 14 = .ok (.aload_n 0, 1) := by decide +kernel
theorem dX5_readInto_15 : decode cX5_readInto 15 = .ok (.getfield 14, 3) := by decide +kernel
theorem dX5_readInto_18 : decode cX5_readInto 18 = .ok (.invokevirtual 32, 3) := by decide +kernel
theorem dX5_readInto_21 : decode cX5_readInto 21 = .ok (.aload_n 0, 1) := by decide +kernel
theorem dX5_readInto_22 : decode cX5_readInto 22 = .ok (.aload_n 1, 1) := by decide +kernel
theorem dX5_readInto_23 : decode cX5_readInto 23 = .ok (.getfield 35, 3) := by decide +kernel
theorem dX5_readInto_26 : decode cX5_readInto 26 = .ok (.invokevirtual 39, 3) := by decide +kernel
theorem dX5_readInto_29 : decode cX5_readInto 29 = .ok (.aload_n 0, 1) := by decide +kernel
theorem dX5_readInto_30 : decode cX5_readInto 30 = .ok (.aload_n 1, 1) := by decide +kernel
theorem dX5_readInto_31 : decode cX5_readInto 31 = .ok (.getfield 35, 3) := by decide +kernel
theorem dX5_readInto_34 : decode cX5_readInto 34 = .ok (.invokevirtual 43, 3) := by decide +kernel
theorem dX5_readInto_37 : decode cX5_readInto 37 = .ok (.aload_n 0, 1) := by decide +kernel
theorem dX5_readInto_38 : decode cX5_readInto 38 = .ok (.aload_n 1, 1) := by decide +kernel
theorem dX5_readInto_39 : decode cX5_readInto 39 = .ok (.getfield 35, 3) := by decide +kernel
theorem dX5_readInto_42 : decode cX5_readInto 42 = .ok (.invokevirtual 46, 3) := by decide +kernel
theorem dX5_readInto_45 : decode cX5_readInto 45 = .ok (.aload_n 0, 1) := by decide +kernel
theorem dX5_readInto_46 : decode cX5_readInto 46 = .ok (.aload_n 1, 1) := by decide +kernel
theorem dX5_readInto_47 : decode cX5_readInto 47 = .ok (.getfield 49, 3) := by decide +kernel
theorem dX5_readInto_50 : decode cX5_readInto 50 = .ok (.invokevirtual 53, 3) := by decide +kernel
theorem dX5_readInto_53 : decode cX5_readInto 53 = .ok (.aload_n 0, 1) := by decide +kernel
theorem dX5_readInto_54 : decode cX5_readInto 54 = .ok (.aload_n 1, 1) := by decide +kernel
theorem dX5_readInto_55 : decode cX5_readInto 55 = .ok (.getfield 57, 3) := by decide +kernel
theorem dX5_readInto_58 : decode cX5_readInto 58 = .ok (.invokevirtual 61, 3) := by decide +kernel
theorem dX5_readInto_61 : decode cX5_readInto 61 = .ok (.aload_n 0, 1) := by decide +kernel
theorem dX5_readInto_62 : decode cX5_readInto 62 = .ok (.aload_n 1, 1) := by decide +kernel
theorem dX5_readInto_63 : decode cX5_readInto 63 = .ok (.getfield 65, 3) := by decide +kernel
theorem dX5_readInto_66 : decode cX5_readInto 66 = .ok (.invokevirtual 69, 3) := by decide +kernel
theorem dX5_readInto_69 : decode cX5_readInto 69 = .ok (.aload_n 0, 1) := by decide +kernel
theorem dX5_readInto_70 : decode cX5_readInto 70 = .ok (.aload_n 1, 1) := by decide +kernel
theorem dX5_readInto_71 : decode cX5_readInto 71 = .ok (.getfield 65, 3) := by decide +kernel
theorem dX5_readInto_74 : decode cX5_readInto 74 = .ok (.invokevirtual 73, 3) := by decide +kernel
theorem dX5_readInto_77 : decode cX5_readInto 77 = .ok (.aload_n 0, 1) := by decide +kernel
theorem dX5_readInto_78 : decode cX5_readInto 78 = .ok (.getfield 14, 3) := by decide +kernel
theorem dX5_readInto_81 : decode cX5_readInto 81 = .ok (.getfield 76, 3) := by decide +kernel
theorem dX5_readInto_84 : decode cX5_readInto 84 = .ok (.ifCond .eq 8, 3) := by decide +kernel
theorem dX5_readInto_87 : decode cX5_readInto 87 = .ok (.aload_n 0, 1) := by decide +kernel
theorem dX5_readInto_88 : decode cX5_readInto 88 = .ok (.iconst 1, 1) := by decide +kernel
theorem dX5_readInto_89 : decode cX5_readInto 89 = .ok (.invokevirtual 79, 3) := by decide +kernel
theorem dX5_readInto_92 : decode cX5_readInto 92 = .ok (.aload_n 1, 1) := by decide +kernel
theorem dX5_readInto_93 : decode cX5_readInto 93 = .ok (.aload_n 0, 1) := by decide +kernel
theorem dX5_readInto_94 : decode cX5_readInto 94 = .ok (.getfield 20, 3) := by decide +kernel
theorem dX5_readInto_97 : decode cX5_readInto 97 = .ok (.ifCond .ne 7, 3) := by decide +kernel
theorem dX5_readInto_100 : decode cX5_readInto 100 = .ok (.iconst 1, 1) := by decide +kernel
theorem dX5_readInto_101 : decode cX5_readInto 101 = .ok (.goto 4, 3) := by decide +kernel
theorem dX5_readInto_104 : decode cX5_readInto 104 = .ok (.iconst 0, 1) := by decide +kernel
theorem dX5_readInto_105 : decode cX5_readInto 105 = .ok (.putfield 83, 3) := by decide +kernel
theorem dX5_readInto_108 : decode cX5_readInto 108 = .ok (.return_, 1) := by decide +kernel
theorem dX5_readSize_0 : decode cX5_readSize 0 = .ok (.aload_n 0, 1) := by decide +kernel
theorem dX5_readSize_1 : decode cX5_readSize 1 = .ok (.ldc 87, 2) := by decide +kernel
theorem dX5_readSize_3 : decode cX5_readSize 3 = .ok (.invokevirtual 89, 3) := by decide +kernel
theorem dX5_readSize_6 : decode cX5_readSize 6 = .ok (.aload_n 0, 1) := by decide +kernel
theorem dX5_readSize_7 : decode cX5_readSize 7 = .ok (.iconst 1, 1) := by decide +kernel
theorem dX5_readSize_8 : decode cX5_readSize 8 = .ok (.bipush 16, 2) := by decide +kernel
theorem dX5_readSize_10 : decode cX5_readSize 10 = .ok (.invokevirtual 93, 3) := by decide +kernel
theorem dX5_readSize_13 : decode cX5_readSize 13 = .ok (.istore_n 2, 1) := by decide +kernel
theorem dX5_readSize_14 : decode cX5_readSize 14 = .ok (.aload_n 0, 1) := by decide +kernel
theorem dX5_readSize_15 : decode cX5_readSize 15 = .ok (.iconst 1, 1) := by decide +kernel
theorem dX5_readSize_16 : decode cX5_readSize 16 = .ok (.bipush 8, 2) := by decide +kernel
theorem dX5_readSize_18 : decode cX5_readSize 18 = .ok (.invokevirtual 93, 3) := by decide +kernel
theorem dX5_readSize_21 : decode cX5_readSize 21 = .ok (.istore_n 3, 1) := by decide +kernel
theorem dX5_readSize_22 : decode cX5_readSize 22 = .ok (.aload_n 0, 1) := by decide +kernel
theorem dX5_readSize_23 : decode cX5_readSize 23 = .ok (.invokevirtual 97, 3) := by decide +kernel
theorem dX5_readSize_26 : decode cX5_readSize 26 = .ok (.aload_n 1, 1) := by decide +kernel
theorem dX5_readSize_27 : decode cX5_readSize 27 = .ok (.iload_n 2, 1) := by decide +kernel
theorem dX5_readSize_28 : decode cX5_readSize 28 = .ok (.iload_n 3, 1) := by decide +kernel
theorem dX5_readSize_29 : decode cX5_readSize 29 = .ok (.invokevirtual 100, 3) := by decide +kernel
theorem dX5_readSize_32 : decode cX5_readSize 32 = .ok (.return_, 1) := by decide +kernel
theorem dX5_readWinds_0 : decode cX5_readWinds 0 = .ok (.aload_n 0, 1) := by decide +kernel
theorem dX5_readWinds_1 : decode cX5_readWinds 1 = .ok (.getfield 14, 3) := by decide +kernel
theorem dX5_readWinds_4 : decode cX5_readWinds 4 = .ok (.ldc 106, 2) := by decide +kernel
theorem dX5_readWinds_6 : decode cX5_readWinds 6 = .ok (.invokevirtual 108, 3) := by decide +kernel
theorem dX5_readWinds_9 : decode cX5_readWinds 9 = .ok (.ifCond .ne 8, 3) := by decide +kernel
theorem dX5_readWinds_12 : decode cX5_readWinds 12 = .ok (.aload_n 0, 1) := by decide +kernel
theorem dX5_readWinds_13 : decode cX5_readWinds 13 = .ok (.iconst 1, 1) := by decide +kernel
theorem dX5_readWinds_14 : decode cX5_readWinds 14 = .ok (.invokevirtual 79, 3) := by decide +kernel
theorem dX5_readWinds_17 : decode cX5_readWinds 17 = .ok (.iconst 0, 1) := by decide +kernel
theorem dX5_readWinds_18 : decode cX5_readWinds 18 = .ok (.istore_n 2, 1) := by decide +kernel
theorem dX5_readWinds_19 : decode cX5_readWinds 19 = .ok (.iload_n 2, 1) := by decide +kernel
theorem dX5_readWinds_20 : decode cX5_readWinds 20 = .ok (.iconst 4, 1) := by decide +kernel
theorem dX5_readWinds_21 : decode cX5_readWinds 21 = .ok (.if_icmp .gt 45, 3) := by decide +kernel
theorem dX5_readWinds_24 : decode cX5_readWinds 24 = .ok (.aload_n 0, 1) := by decide +kernel
theorem dX5_readWinds_25 : decode cX5_readWinds 25 = .ok (.ldc 106, 2) := by decide +kernel
theorem dX5_readWinds_27 : decode cX5_readWinds 27 = .ok (.iload_n 2, 1) := by decide +kernel
theorem dX5_readWinds_28 : decode cX5_readWinds 28 = .ok (.iconst 4, 1) := by decide +kernel
theorem dX5_readWinds_29 : decode cX5_readWinds 29 = .ok (.invokevirtual 112, 3) := by decide +kernel
theorem dX5_readWinds_32 : decode cX5_readWinds 32 = .ok (.ifCond .eq 34, 3) := by decide +kernel
theorem dX5_readWinds_35 : decode cX5_readWinds 35 = .ok (.aload_n 0, 1) := by decide +kernel
theorem dX5_readWinds_36 : decode cX5_readWinds 36 = .ok (.invokevirtual 116, 3) := by decide +kernel
theorem dX5_readWinds_39 : decode cX5_readWinds 39 = .ok (.istore_n 3, 1) := by decide +kernel
theorem dX5_readWinds_40 : decode cX5_readWinds 40 = .ok (.aload_n 0, 1) := by decide +kernel
theorem dX5_readWinds_41 : decode cX5_readWinds 41 = .ok (.iconst 1, 1) := by decide +kernel
theorem dX5_readWinds_42 : decode cX5_readWinds 42 = .ok (.bipush 9, 2) := by decide +kernel
theorem dX5_readWinds_44 : decode cX5_readWinds 44 = .ok (.invokevirtual 93, 3) := by decide +kernel
theorem dX5_readWinds_47 : decode cX5_readWinds 47 = .ok (.istore 4, 2) := by decide +kernel
theorem dX5_readWinds_49 : decode cX5_readWinds 49 = .ok (.aload_n 0, 1) := by decide +kernel
theorem dX5_readWinds_50 : decode cX5_readWinds 50 = .ok (.invokevirtual 97, 3) := by decide +kernel
theorem dX5_readWinds_53 : decode cX5_readWinds 53 = .ok (.aload_n 1, 1) := by decide +kernel
theorem dX5_readWinds_54 : decode cX5_readWinds 54 = .ok (.iload_n 3, 1) := by decide +kernel
theorem dX5_readWinds_55 : decode cX5_readWinds 55 = .ok (.iload 4, 2) := by decide +kernel
theorem dX5_readWinds_57 : decode cX5_readWinds 57 = .ok (.invokevirtual 120, 3) := by decide +kernel
theorem dX5_readWinds_60 : decode cX5_readWinds 60 = .ok (.iinc 2 1, 3) := by decide +kernel
theorem dX5_readWinds_63 : decode cX5_readWinds 63 = .ok (.goto (-44), 3) := by decide +kernel
theorem dX5_readWinds_66 : decode cX5_readWinds 66 = .ok (.return_, 1) := by decide +kernel
theorem dX5_readLands_0 : decode cX5_readLands 0 = .ok (.iconst 0, 1) := by decide +kernel
theorem dX5_readLands_1 : decode cX5_readLands 1 = .ok (.istore_n 2, 1) := by decide +kernel
theorem dX5_readLands_2 : decode cX5_readLands 2 = .ok (.iload_n 2, 1) := by decide +kernel
theorem dX5_readLands_3 : decode cX5_readLands 3 = .ok (.bipush 12, 2) := by decide +kernel
theorem dX5_readLands_5 : decode cX5_readLands 5 = .ok (.if_icmp .gt 57, 3) := by decide +kernel
theorem dX5_readLands_8 : decode cX5_readLands 8 = .ok (.aload_n 0, 1) := by decide +kernel
theorem dX5_readLands_9 : decode cX5_readLands 9 = .ok (.ldc 123, 2) := by decide +kernel
theorem dX5_readLands_11 : decode cX5_readLands 11 = .ok (.iload_n 2, 1) := by decide +kernel
theorem dX5_readLands_12 : decode cX5_readLands 12 = .ok (.bipush 12, 2) := by decide +kernel
theorem dX5_readLands_14 : decode cX5_readLands 14 = .ok (.invokevirtual 112, 3) := by decide +kernel
theorem dX5_readLands_17 : decode cX5_readLands 17 = .ok (.ifCond .eq 45, 3) := by decide +kernel
theorem dX5_readLands_20 : decode cX5_readLands 20 = .ok (.aload_n 0, 1) := by decide +kernel
theorem dX5_readLands_21 : decode cX5_readLands 21 = .ok (.iconst 0, 1) := by decide +kernel
theorem dX5_readLands_22 : decode cX5_readLands 22 = .ok (.aload_n 1, 1) := by decide +kernel
theorem dX5_readLands_23 : decode cX5_readLands 23 = .ok (.getfield 125, 3) := by decide +kernel
theorem dX5_readLands_26 : decode cX5_readLands 26 = .ok (.iconst 1, 1) := by decide +kernel
theorem dX5_readLands_27 : decode cX5_readLands 27 = .ok (.isub, 1) := by decide +kernel
theorem dX5_readLands_28 : decode cX5_readLands 28 = .ok (.invokevirtual 93, 3) := by decide +kernel
theorem dX5_readLands_31 : decode cX5_readLands 31 = .ok (.istore_n 3, 1) := by decide +kernel
theorem dX5_readLands_32 : decode cX5_readLands 32 = .ok (.aload_n 0, 1) := by decide +kernel
theorem dX5_readLands_33 : decode cX5_readLands 33 = .ok (.iconst 0, 1) := by decide +kernel
theorem dX5_readLands_34 : decode cX5_readLands 34 = .ok (.aload_n 1, 1) := by decide +kernel
theorem dX5_readLands_35 : decode cX5_readLands 35 = .ok (.getfield 128, 3) := by decide +kernel
theorem dX5_readLands_38 : decode cX5_readLands 38 = .ok (.iconst 1, 1) := by decide +kernel
theorem dX5_readLands_39 : decode cX5_readLands 39 = .ok (.isub, 1) := by decide +kernel
theorem dX5_readLands_40 : decode cX5_readLands 40 = .ok (.invokevirtual 93, 3) := by decide +kernel
theorem dX5_readLands_43 : decode cX5_readLands 43 = .ok (.istore 4, 2) := by decide +kernel
theorem dX5_readLands_45 : decode cX5_readLands 45 = .ok (.aload_n 0, 1) := by decide +kernel
theorem dX5_readLands_46 : decode cX5_readLands 46 = .ok (.invokevirtual 97, 3) := by decide +kernel
theorem dX5_readLands_49 : decode cX5_readLands 49 = .ok (.aload_n 1, 1) := by decide +kernel
theorem dX5_readLands_50 : decode cX5_readLands 50 = .ok (.iload_n 3, 1) := by decide +kernel
theorem dX5_readLands_51 : decode cX5_readLands 51 = .ok (.iload 4, 2) := by decide +kernel
theorem dX5_readLands_53 : decode cX5_readLands 53 = .ok (.invokevirtual 131, 3) := by decide +kernel
theorem dX5_readLands_56 : decode cX5_readLands 56 = .ok (.iinc 2 1, 3) := by decide +kernel
theorem dX5_readLands_59 : decode cX5_readLands 59 = .ok (.goto (-57), 3) := by decide +kernel
theorem dX5_readLands_62 : decode cX5_readLands 62 = .ok (.return_, 1) := by decide +kernel
theorem dX5_readShip_0 : decode cX5_readShip 0 = .ok (.aload_n 0, 1) := by decide +kernel
theorem dX5_readShip_1 : decode cX5_readShip 1 = .ok (.ldc 134, 2) := by decide +kernel
theorem dX5_readShip_3 : decode cX5_readShip 3 = .ok (.invokevirtual 89, 3) := by decide +kernel
theorem dX5_readShip_6 : decode cX5_readShip 6 = .ok (.aload_n 0, 1) := by decide +kernel
theorem dX5_readShip_7 : decode cX5_readShip 7 = .ok (.iconst 0, 1) := by decide +kernel
theorem dX5_readShip_8 : decode cX5_readShip 8 = .ok (.bipush 7, 2) := by decide +kernel
theorem dX5_readShip_10 : decode cX5_readShip 10 = .ok (.invokevirtual 93, 3) := by decide +kernel
theorem dX5_readShip_13 : decode cX5_readShip 13 = .ok (.istore_n 2, 1) := by decide +kernel
theorem dX5_readShip_14 : decode cX5_readShip 14 = .ok (.aload_n 0, 1) := by decide +kernel
theorem dX5_readShip_15 : decode cX5_readShip 15 = .ok (.iconst 0, 1) := by decide +kernel
theorem dX5_readShip_16 : decode cX5_readShip 16 = .ok (.bipush 20, 2) := by decide +kernel
theorem dX5_readShip_18 : decode cX5_readShip 18 = .ok (.invokevirtual 93, 3) := by decide +kernel
theorem dX5_readShip_21 : decode cX5_readShip 21 = .ok (.istore_n 3, 1) := by decide +kernel
theorem dX5_readShip_22 : decode cX5_readShip 22 = .ok (.aload_n 0, 1) := by decide +kernel
theorem dX5_readShip_23 : decode cX5_readShip 23 = .ok (.iconst 0, 1) := by decide +kernel
theorem dX5_readShip_24 : decode cX5_readShip 24 = .ok (.bipush 40, 2) := by decide +kernel
theorem dX5_readShip_26 : decode cX5_readShip 26 = .ok (.invokevirtual 93, 3) := by decide +kernel
theorem dX5_readShip_29 : decode cX5_readShip 29 = .ok (.istore 4, 2) := by decide +kernel
theorem dX5_readShip_31 : decode cX5_readShip 31 = .ok (.aload_n 0, 1) := by decide +kernel
theorem dX5_readShip_32 : decode cX5_readShip 32 = .ok (.iconst 1, 1) := by decide +kernel
theorem dX5_readShip_33 : decode cX5_readShip 33 = .ok (.sipush 200, 3) := by decide +kernel
theorem dX5_readShip_36 : decode cX5_readShip 36 = .ok (.invokevirtual 93, 3) := by decide +kernel
theorem dX5_readShip_39 : decode cX5_readShip 39 = .ok (.istore 5, 2) := by decide +kernel
theorem dX5_readShip_41 : decode cX5_readShip 41 = .ok (.aload_n 0, 1) := by decide +kernel
theorem dX5_readShip_42 : decode cX5_readShip 42 = .ok (.invokevirtual 97, 3) := by decide +kernel
theorem dX5_readShip_45 : decode cX5_readShip 45 = .ok (.aload_n 1, 1) := by decide +kernel
theorem dX5_readShip_46 : decode cX5_readShip 46 = .ok (.iload_n 2, 1) := by decide +kernel
theorem dX5_readShip_47 : decode cX5_readShip 47 = .ok (.iload_n 3, 1) := by decide +kernel
theorem dX5_readShip_48 : decode cX5_readShip 48 = .ok (.iload 4, 2) := by decide +kernel
theorem dX5_readShip_50 : decode cX5_readShip 50 = .ok (.iload 5, 2) := by decide +kernel
theorem dX5_readShip_52 : decode cX5_readShip 52 = .ok (.invokevirtual 136, 3) := by decide +kernel
theorem dX5_readShip_55 : decode cX5_readShip 55 = .ok (.return_, 1) := by decide +kernel
theorem dX5_readMen_0 : decode cX5_readMen 0 = .ok (.iconst 0, 1) := by decide +kernel
theorem dX5_readMen_1 : decode cX5_readMen 1 = .ok (.istore_n 2, 1) := by decide +kernel
theorem dX5_readMen_2 : decode cX5_readMen 2 = .ok (.iload_n 2, 1) := by decide +kernel
theorem dX5_readMen_3 : decode cX5_readMen 3 = .ok (.bipush 10, 2) := by decide +kernel
theorem dX5_readMen_5 : decode cX5_readMen 5 = .ok (.if_icmp .gt 50, 3) := by decide +kernel
theorem dX5_readMen_8 : decode cX5_readMen 8 = .ok (.aload_n 0, 1) := by decide +kernel
theorem dX5_readMen_9 : decode cX5_readMen 9 = .ok (.ldc 142, 2) := by decide +kernel
theorem dX5_readMen_11 : decode cX5_readMen 11 = .ok (.iload_n 2, 1) := by decide +kernel
theorem dX5_readMen_12 : decode cX5_readMen 12 = .ok (.bipush 10, 2) := by decide +kernel
theorem dX5_readMen_14 : decode cX5_readMen 14 = .ok (.invokevirtual 112, 3) := by decide +kernel
theorem dX5_readMen_17 : decode cX5_readMen 17 = .ok (.ifCond .eq 38, 3) := by decide +kernel
theorem dX5_readMen_20 : decode cX5_readMen 20 = .ok (.aload_n 0, 1) := by decide +kernel
theorem dX5_readMen_21 : decode cX5_readMen 21 = .ok (.iconst 1, 1) := by decide +kernel
theorem dX5_readMen_22 : decode cX5_readMen 22 = .ok (.sipush 200, 3) := by decide +kernel
theorem dX5_readMen_25 : decode cX5_readMen 25 = .ok (.invokevirtual 93, 3) := by decide +kernel
theorem dX5_readMen_28 : decode cX5_readMen 28 = .ok (.istore_n 3, 1) := by decide +kernel
theorem dX5_readMen_29 : decode cX5_readMen 29 = .ok (.aload_n 0, 1) := by decide +kernel
theorem dX5_readMen_30 : decode cX5_readMen 30 = .ok (.iconst 1, 1) := by decide +kernel
theorem dX5_readMen_31 : decode cX5_readMen 31 = .ok (.bipush 50, 2) := by decide +kernel
theorem dX5_readMen_33 : decode cX5_readMen 33 = .ok (.invokevirtual 93, 3) := by decide +kernel
theorem dX5_readMen_36 : decode cX5_readMen 36 = .ok (.istore 4, 2) := by decide +kernel
theorem dX5_readMen_38 : decode cX5_readMen 38 = .ok (.aload_n 0, 1) := by decide +kernel
theorem dX5_readMen_39 : decode cX5_readMen 39 = .ok (.invokevirtual 97, 3) := by decide +kernel
theorem dX5_readMen_42 : decode cX5_readMen 42 = .ok (.aload_n 1, 1) := by decide +kernel
theorem dX5_readMen_43 : decode cX5_readMen 43 = .ok (.iload_n 3, 1) := by decide +kernel
theorem dX5_readMen_44 : decode cX5_readMen 44 = .ok (.iload 4, 2) := by decide +kernel
theorem dX5_readMen_46 : decode cX5_readMen 46 = .ok (.invokevirtual 144, 3) := by decide +kernel
theorem dX5_readMen_49 : decode cX5_readMen 49 = .ok (.iinc 2 1, 3) := by decide +kernel
theorem dX5_readMen_52 : decode cX5_readMen 52 = .ok (.goto (-50), 3) := by decide +kernel
theorem dX5_readMen_55 : decode cX5_readMen 55 = .ok (.return_, 1) := by decide +kernel
theorem dX5_readSigns_0 : decode cX5_readSigns 0 = .ok (.iconst 0, 1) := by decide +kernel
theorem dX5_readSigns_1 : decode cX5_readSigns 1 = .ok (.istore_n 2, 1) := by decide +kernel
theorem dX5_readSigns_2 : decode cX5_readSigns 2 = .ok (.iload_n 2, 1) := by decide +kernel
theorem dX5_readSigns_3 : decode cX5_readSigns 3 = .ok (.bipush 10, 2) := by decide +kernel
theorem dX5_readSigns_5 : decode cX5_readSigns 5 = .ok (.if_icmp .gt 46, 3) := by decide +kernel
theorem dX5_readSigns_8 : decode cX5_readSigns 8 = .ok (.aload_n 0, 1) := by decide +kernel
theorem dX5_readSigns_9 : decode cX5_readSigns 9 = .ok (.ldc 149, 2) := by decide +kernel
theorem dX5_readSigns_11 : decode cX5_readSigns 11 = .ok (.iload_n 2, 1) := by decide +kernel
theorem dX5_readSigns_12 : decode cX5_readSigns 12 = .ok (.bipush 10, 2) := by decide +kernel
theorem dX5_readSigns_14 : decode cX5_readSigns 14 = .ok (.invokevirtual 112, 3) := by decide +kernel
theorem dX5_readSigns_17 : decode cX5_readSigns 17 = .ok (.ifCond .eq 34, 3) := by decide +kernel
theorem dX5_readSigns_20 : decode cX5_readSigns 20 = .ok (.aload_n 0, 1) := by decide +kernel
theorem dX5_readSigns_21 : decode cX5_readSigns 21 = .ok (.invokevirtual 151, 3) := by decide +kernel
theorem dX5_readSigns_24 : decode cX5_readSigns 24 = .ok (.istore_n 3, 1) := by decide +kernel
theorem dX5_readSigns_25 : decode cX5_readSigns 25 = .ok (.aload_n 0, 1) := by decide +kernel
theorem dX5_readSigns_26 : decode cX5_readSigns 26 = .ok (.iconst 0, 1) := by decide +kernel
theorem dX5_readSigns_27 : decode cX5_readSigns 27 = .ok (.bipush 9, 2) := by decide +kernel
theorem dX5_readSigns_29 : decode cX5_readSigns 29 = .ok (.invokevirtual 93, 3) := by decide +kernel
theorem dX5_readSigns_32 : decode cX5_readSigns 32 = .ok (.istore 4, 2) := by decide +kernel
theorem dX5_readSigns_34 : decode cX5_readSigns 34 = .ok (.aload_n 0, 1) := by decide +kernel
theorem dX5_readSigns_35 : decode cX5_readSigns 35 = .ok (.invokevirtual 97, 3) := by decide +kernel
theorem dX5_readSigns_38 : decode cX5_readSigns 38 = .ok (.aload_n 1, 1) := by decide +kernel
theorem dX5_readSigns_39 : decode cX5_readSigns 39 = .ok (.iload_n 3, 1) := by decide +kernel
theorem dX5_readSigns_40 : decode cX5_readSigns 40 = .ok (.iload 4, 2) := by decide +kernel
theorem dX5_readSigns_42 : decode cX5_readSigns 42 = .ok (.invokevirtual 154, 3) := by decide +kernel
theorem dX5_readSigns_45 : decode cX5_readSigns 45 = .ok (.iinc 2 1, 3) := by decide +kernel
theorem dX5_readSigns_48 : decode cX5_readSigns 48 = .ok (.goto (-46), 3) := by decide +kernel
theorem dX5_readSigns_51 : decode cX5_readSigns 51 = .ok (.return_, 1) := by decide +kernel
theorem dX5_readStories_0 : decode cX5_readStories 0 = .ok (.iconst 0, 1) := by decide +kernel
theorem dX5_readStories_1 : decode cX5_readStories 1 = .ok (.istore_n 2, 1) := by decide +kernel
theorem dX5_readStories_2 : decode cX5_readStories 2 = .ok (.iload_n 2, 1) := by decide +kernel
theorem dX5_readStories_3 : decode cX5_readStories 3 = .ok (.bipush 6, 2) := by decide +kernel
theorem dX5_readStories_5 : decode cX5_readStories 5 = .ok (.if_icmp .gt 41, 3) := by decide +kernel
theorem dX5_readStories_8 : decode cX5_readStories 8 = .ok (.aload_n 0, 1) := by decide +kernel
theorem dX5_readStories_9 : decode cX5_readStories 9 = .ok (.ldc 159, 2) := by decide +kernel
theorem dX5_readStories_11 : decode cX5_readStories 11 = .ok (.iload_n 2, 1) := by decide +kernel
theorem dX5_readStories_12 : decode cX5_readStories 12 = .ok (.bipush 6, 2) := by decide +kernel
theorem dX5_readStories_14 : decode cX5_readStories 14 = .ok (.invokevirtual 112, 3) := by decide +kernel
theorem dX5_readStories_17 : decode cX5_readStories 17 = .ok (.ifCond .eq 29, 3) := by decide +kernel
theorem dX5_readStories_20 : decode cX5_readStories 20 = .ok (.aload_n 1, 1) := by decide +kernel
theorem dX5_readStories_21 : decode cX5_readStories 21 = .ok (.aload_n 0, 1) := by decide +kernel
theorem dX5_readStories_22 : decode cX5_readStories 22 = .ok (.iconst 1, 1) := by decide +kernel
theorem dX5_readStories_23 : decode cX5_readStories 23 = .ok (.bipush 9, 2) := by decide +kernel
theorem dX5_readStories_25 : decode cX5_readStories 25 = .ok (.invokevirtual 93, 3) := by decide +kernel
theorem dX5_readStories_28 : decode cX5_readStories 28 = .ok (.invokevirtual 161, 3) := by decide +kernel
theorem dX5_readStories_31 : decode cX5_readStories 31 = .ok (.aload_n 0, 1) := by decide +kernel
theorem dX5_readStories_32 : decode cX5_readStories 32 = .ok (.aload_n 1, 1) := by decide +kernel
theorem dX5_readStories_33 : decode cX5_readStories 33 = .ok (.invokevirtual 164, 3) := by decide +kernel
theorem dX5_readStories_36 : decode cX5_readStories 36 = .ok (.aload_n 0, 1) := by decide +kernel
theorem dX5_readStories_37 : decode cX5_readStories 37 = .ok (.invokevirtual 97, 3) := by decide +kernel
theorem dX5_readStories_40 : decode cX5_readStories 40 = .ok (.iinc 2 1, 3) := by decide +kernel
theorem dX5_readStories_43 : decode cX5_readStories 43 = .ok (.goto (-41), 3) := by decide +kernel
theorem dX5_readStories_46 : decode cX5_readStories 46 = .ok (.return_, 1) := by decide +kernel
theorem dX5_readWhatItLeaves_0 : decode cX5_readWhatItLeaves 0 = .ok (.iconst 0, 1) := by decide +kernel
theorem dX5_readWhatItLeaves_1 : decode cX5_readWhatItLeaves 1 = .ok (.istore_n 2, 1) := by decide +kernel
theorem dX5_readWhatItLeaves_2 : decode cX5_readWhatItLeaves 2 = .ok (.iload_n 2, 1) := by decide +kernel
theorem dX5_readWhatItLeaves_3 : decode cX5_readWhatItLeaves 3 = .ok (.sipush 600, 3) := by decide +kernel
theorem dX5_readWhatItLeaves_6 : decode cX5_readWhatItLeaves 6 = .ok (.if_icmp .ge 77, 3) := by decide +kernel
theorem dX5_readWhatItLeaves_9 : decode cX5_readWhatItLeaves 9 = .ok (.aload_n 0, 1) := by decide +kernel
theorem dX5_readWhatItLeaves_10 : decode cX5_readWhatItLeaves 10 = .ok (.getfield 20, 3) := by decide +kernel
theorem dX5_readWhatItLeaves_13 : decode cX5_readWhatItLeaves 13 = .ok (.ifCond .ne 70, 3) := by decide +kernel
theorem dX5_readWhatItLeaves_16 : decode cX5_readWhatItLeaves 16 = .ok (.aload_n 0, 1) := by decide +kernel
theorem dX5_readWhatItLeaves_17 : decode cX5_readWhatItLeaves 17 = .ok (.getfield 14, 3) := by decide +kernel
theorem dX5_readWhatItLeaves_20 : decode cX5_readWhatItLeaves 20 = .ok (.ldc 167, 2) := by decide +kernel
theorem dX5_readWhatItLeaves_22 : decode cX5_readWhatItLeaves 22 = .ok (.invokevirtual 108, 3) := by decide +kernel
theorem dX5_readWhatItLeaves_25 : decode cX5_readWhatItLeaves 25 = .ok (.istore_n 3, 1) := by decide +kernel
theorem dX5_readWhatItLeaves_26 : decode cX5_readWhatItLeaves 26 = .ok (.iload_n 3, 1) := by decide +kernel
theorem dX5_readWhatItLeaves_27 : decode cX5_readWhatItLeaves 27 = .ok (.ifCond .ne 16, 3) := by decide +kernel
theorem dX5_readWhatItLeaves_30 : decode cX5_readWhatItLeaves 30 = .ok (.aload_n 0, 1) := by decide +kernel
theorem dX5_readWhatItLeaves_31 : decode cX5_readWhatItLeaves 31 = .ok (.getfield 14, 3) := by decide +kernel
theorem dX5_readWhatItLeaves_34 : decode cX5_readWhatItLeaves 34 = .ok (.ldc 169, 2) := by decide +kernel
theorem dX5_readWhatItLeaves_36 : decode cX5_readWhatItLeaves 36 = .ok (.invokevirtual 108, 3) := by decide +kernel
theorem dX5_readWhatItLeaves_39 : decode cX5_readWhatItLeaves 39 = .ok (.ifCond .ne 4, 3) := by decide +kernel
theorem dX5_readWhatItLeaves_42 : decode cX5_readWhatItLeaves 42 = .ok (.return_, 1) := by decide +kernel
theorem dX5_readWhatItLeaves_43 : decode cX5_readWhatItLeaves 43 = .ok (.aload_n 0, 1) := by decide +kernel
theorem dX5_readWhatItLeaves_44 : decode cX5_readWhatItLeaves 44 = .ok (.getfield 14, 3) := by decide +kernel
theorem dX5_readWhatItLeaves_47 : decode cX5_readWhatItLeaves 47 = .ok (.invokevirtual 171, 3) := by decide +kernel
theorem dX5_readWhatItLeaves_50 : decode cX5_readWhatItLeaves 50 = .ok (.aload_n 0, 1) := by decide +kernel
theorem dX5_readWhatItLeaves_51 : decode cX5_readWhatItLeaves 51 = .ok (.iconst 0, 1) := by decide +kernel
theorem dX5_readWhatItLeaves_52 : decode cX5_readWhatItLeaves 52 = .ok (.aload_n 1, 1) := by decide +kernel
theorem dX5_readWhatItLeaves_53 : decode cX5_readWhatItLeaves 53 = .ok (.getfield 174, 3) := by decide +kernel
theorem dX5_readWhatItLeaves_56 : decode cX5_readWhatItLeaves 56 = .ok (.iconst 1, 1) := by decide +kernel
theorem dX5_readWhatItLeaves_57 : decode cX5_readWhatItLeaves 57 = .ok (.isub, 1) := by decide +kernel
theorem dX5_readWhatItLeaves_58 : decode cX5_readWhatItLeaves 58 = .ok (.invokevirtual 93, 3) := by decide +kernel
theorem dX5_readWhatItLeaves_61 : decode cX5_readWhatItLeaves 61 = .ok (.istore 4, 2) := by decide +kernel
theorem dX5_readWhatItLeaves_63 : decode cX5_readWhatItLeaves 63 = .ok (.aload_n 0, 1) := by decide +kernel
theorem dX5_readWhatItLeaves_64 : decode cX5_readWhatItLeaves 64 = .ok (.getfield 20, 3) := by decide +kernel
theorem dX5_readWhatItLeaves_67 : decode cX5_readWhatItLeaves 67 = .ok (.ifCond .ne 10, 3) := by decide +kernel
theorem dX5_readWhatItLeaves_70 : decode cX5_readWhatItLeaves 70 = .ok (.aload_n 1, 1) := by decide +kernel
theorem dX5_readWhatItLeaves_71 : decode cX5_readWhatItLeaves 71 = .ok (.iload 4, 2) := by decide +kernel
theorem dX5_readWhatItLeaves_73 : decode cX5_readWhatItLeaves 73 = .ok (.iload_n 3, 1) := by decide +kernel
theorem dX5_readWhatItLeaves_74 : decode cX5_readWhatItLeaves 74 = .ok (.invokevirtual 177, 3) := by decide +kernel
theorem dX5_readWhatItLeaves_77 : decode cX5_readWhatItLeaves 77 = .ok (.iinc 2 1, 3) := by decide +kernel
theorem dX5_readWhatItLeaves_80 : decode cX5_readWhatItLeaves 80 = .ok (.goto (-78), 3) := by decide +kernel
theorem dX5_readWhatItLeaves_83 : decode cX5_readWhatItLeaves 83 = .ok (.return_, 1) := by decide +kernel
theorem dX5_begins_0 : decode cX5_begins 0 = .ok (.aload_n 0, 1) := by decide +kernel
theorem dX5_begins_1 : decode cX5_begins 1 = .ok (.getfield 20, 3) := by decide +kernel
theorem dX5_begins_4 : decode cX5_begins 4 = .ok (.ifCond .ne 14, 3) := by decide +kernel
theorem dX5_begins_7 : decode cX5_begins 7 = .ok (.aload_n 0, 1) := by decide +kernel
theorem dX5_begins_8 : decode cX5_begins 8 = .ok (.getfield 14, 3) := by decide +kernel
theorem dX5_begins_11 : decode cX5_begins 11 = .ok (.aload_n 1, 1) := by decide +kernel
theorem dX5_begins_12 : decode cX5_begins 12 = .ok (.invokevirtual 108, 3) := by decide +kernel
theorem dX5_begins_15 : decode cX5_begins 15 = .ok (.ifCond .ne 5, 3) := by decide +kernel
theorem dX5_begins_18 : decode cX5_begins 18 = .ok (.iconst 0, 1) := by decide +kernel
theorem dX5_begins_19 : decode cX5_begins 19 = .ok (.ireturn, 1) := by decide +kernel
theorem dX5_begins_20 : decode cX5_begins 20 = .ok (.iload_n 2, 1) := by decide +kernel
theorem dX5_begins_21 : decode cX5_begins 21 = .ok (.iload_n 3, 1) := by decide +kernel
theorem dX5_begins_22 : decode cX5_begins 22 = .ok (.if_icmp .lt 10, 3) := by decide +kernel
theorem dX5_begins_25 : decode cX5_begins 25 = .ok (.aload_n 0, 1) := by decide +kernel
theorem dX5_begins_26 : decode cX5_begins 26 = .ok (.iconst 3, 1) := by decide +kernel
theorem dX5_begins_27 : decode cX5_begins 27 = .ok (.invokevirtual 79, 3) := by decide +kernel
theorem dX5_begins_30 : decode cX5_begins 30 = .ok (.iconst 0, 1) := by decide +kernel
theorem dX5_begins_31 : decode cX5_begins 31 = .ok (.ireturn, 1) := by decide +kernel
theorem dX5_begins_32 : decode cX5_begins 32 = .ok (.aload_n 0, 1) := by decide +kernel
theorem dX5_begins_33 : decode cX5_begins 33 = .ok (.getfield 14, 3) := by decide +kernel
theorem dX5_begins_36 : decode cX5_begins 36 = .ok (.invokevirtual 171, 3) := by decide +kernel
theorem dX5_begins_39 : decode cX5_begins 39 = .ok (.iconst 1, 1) := by decide +kernel
theorem dX5_begins_40 : decode cX5_begins 40 = .ok (.ireturn, 1) := by decide +kernel
theorem dX5_takeWord_0 : decode cX5_takeWord 0 = .ok (.aload_n 0, 1) := by decide +kernel
theorem dX5_takeWord_1 : decode cX5_takeWord 1 = .ok (.getfield 14, 3) := by decide +kernel
theorem dX5_takeWord_4 : decode cX5_takeWord 4 = .ok (.aload_n 1, 1) := by decide +kernel
theorem dX5_takeWord_5 : decode cX5_takeWord 5 = .ok (.invokevirtual 108, 3) := by decide +kernel
theorem dX5_takeWord_8 : decode cX5_takeWord 8 = .ok (.ifCond .eq 13, 3) := by decide +kernel
theorem dX5_takeWord_11 : decode cX5_takeWord 11 = .ok (.aload_n 0, 1) := by decide +kernel
theorem dX5_takeWord_12 : decode cX5_takeWord 12 = .ok (.getfield 14, 3) := by decide +kernel
theorem dX5_takeWord_15 : decode cX5_takeWord 15 = .ok (.invokevirtual 171, 3) := by decide +kernel
theorem dX5_takeWord_18 : decode cX5_takeWord 18 = .ok (.goto 8, 3) := by decide +kernel
theorem dX5_takeWord_21 : decode cX5_takeWord 21 = .ok (.aload_n 0, 1) := by decide +kernel
theorem dX5_takeWord_22 : decode cX5_takeWord 22 = .ok (.iconst 1, 1) := by decide +kernel
theorem dX5_takeWord_23 : decode cX5_takeWord 23 = .ok (.invokevirtual 79, 3) := by decide +kernel
theorem dX5_takeWord_26 : decode cX5_takeWord 26 = .ok (.return_, 1) := by decide +kernel
theorem dX5_takeNumber_0 : decode cX5_takeNumber 0 = .ok (.aload_n 0, 1) := by decide +kernel
theorem dX5_takeNumber_1 : decode cX5_takeNumber 1 = .ok (.getfield 14, 3) := by decide +kernel
theorem dX5_takeNumber_4 : decode cX5_takeNumber 4 = .ok (.getfield 76, 3) := by decide +kernel
theorem dX5_takeNumber_7 : decode cX5_takeNumber 7 = .ok (.iconst 2, 1) := by decide +kernel
theorem dX5_takeNumber_8 : decode cX5_takeNumber 8 = .ok (.if_icmp .eq 11, 3) := by decide +kernel
theorem dX5_takeNumber_11 : decode cX5_takeNumber 11 = .ok (.aload_n 0, 1) := by decide +kernel
theorem dX5_takeNumber_12 : decode cX5_takeNumber 12 = .ok (.iconst 1, 1) := by decide +kernel
theorem dX5_takeNumber_13 : decode cX5_takeNumber 13 = .ok (.invokevirtual 79, 3) := by decide +kernel
theorem dX5_takeNumber_16 : decode cX5_takeNumber 16 = .ok (.goto 23, 3) := by decide +kernel
theorem dX5_takeNumber_19 : decode cX5_takeNumber 19 = .ok (.aload_n 0, 1) := by decide +kernel
theorem dX5_takeNumber_20 : decode cX5_takeNumber 20 = .ok (.getfield 14, 3) := by decide +kernel
theorem dX5_takeNumber_23 : decode cX5_takeNumber 23 = .ok (.getfield 181, 3) := by decide +kernel
theorem dX5_takeNumber_26 : decode cX5_takeNumber 26 = .ok (.iload_n 1, 1) := by decide +kernel
theorem dX5_takeNumber_27 : decode cX5_takeNumber 27 = .ok (.iload_n 2, 1) := by decide +kernel
theorem dX5_takeNumber_28 : decode cX5_takeNumber 28 = .ok (.invokestatic 184, 3) := by decide +kernel
theorem dX5_takeNumber_31 : decode cX5_takeNumber 31 = .ok (.ifCond .ne 8, 3) := by decide +kernel
theorem dX5_takeNumber_34 : decode cX5_takeNumber 34 = .ok (.aload_n 0, 1) := by decide +kernel
theorem dX5_takeNumber_35 : decode cX5_takeNumber 35 = .ok (.iconst 2, 1) := by decide +kernel
theorem dX5_takeNumber_36 : decode cX5_takeNumber 36 = .ok (.invokevirtual 79, 3) := by decide +kernel
theorem dX5_takeNumber_39 : decode cX5_takeNumber 39 = .ok (.aload_n 0, 1) := by decide +kernel
theorem dX5_takeNumber_40 : decode cX5_takeNumber 40 = .ok (.getfield 20, 3) := by decide +kernel
theorem dX5_takeNumber_43 : decode cX5_takeNumber 43 = .ok (.ifCond .eq 5, 3) := by decide +kernel
theorem dX5_takeNumber_46 : decode cX5_takeNumber 46 = .ok (.iload_n 1, 1) := by decide +kernel
theorem dX5_takeNumber_47 : decode cX5_takeNumber 47 = .ok (.ireturn, 1) := by decide +kernel
theorem dX5_takeNumber_48 : decode cX5_takeNumber 48 = .ok (.aload_n 0, 1) := by decide +kernel
theorem dX5_takeNumber_49 : decode cX5_takeNumber 49 = .ok (.getfield 14, 3) := by decide +kernel
theorem dX5_takeNumber_52 : decode cX5_takeNumber 52 = .ok (.getfield 181, 3) := by decide +kernel
theorem dX5_takeNumber_55 : decode cX5_takeNumber 55 = .ok (.istore_n 3, 1) := by decide +kernel
theorem dX5_takeNumber_56 : decode cX5_takeNumber 56 = .ok (.aload_n 0, 1) := by decide +kernel
theorem dX5_takeNumber_57 : decode cX5_takeNumber 57 = .ok (.getfield 14, 3) := by decide +kernel
theorem dX5_takeNumber_60 : decode cX5_takeNumber 60 = .ok (.invokevirtual 171, 3) := by decide +kernel
theorem dX5_takeNumber_63 : decode cX5_takeNumber 63 = .ok (.iload_n 3, 1) := by decide +kernel
theorem dX5_takeNumber_64 : decode cX5_takeNumber 64 = .ok (.ireturn, 1) := by decide +kernel
theorem dX5_takeEnd_0 : decode cX5_takeEnd 0 = .ok (.aload_n 0, 1) := by decide +kernel
theorem dX5_takeEnd_1 : decode cX5_takeEnd 1 = .ok (.getfield 14, 3) := by decide +kernel
theorem dX5_takeEnd_4 : decode cX5_takeEnd 4 = .ok (.getfield 76, 3) := by decide +kernel
theorem dX5_takeEnd_7 : decode cX5_takeEnd 7 = .ok (.iconst 3, 1) := by decide +kernel
theorem dX5_takeEnd_8 : decode cX5_takeEnd 8 = .ok (.if_icmp .ne 13, 3) := by decide +kernel
theorem dX5_takeEnd_11 : decode cX5_takeEnd 11 = .ok (.aload_n 0, 1) := by decide +kernel
theorem dX5_takeEnd_12 : decode cX5_takeEnd 12 = .ok (.getfield 14, 3) := by decide +kernel
theorem dX5_takeEnd_15 : decode cX5_takeEnd 15 = .ok (.invokevirtual 171, 3) := by decide +kernel
theorem dX5_takeEnd_18 : decode cX5_takeEnd 18 = .ok (.goto 8, 3) := by decide +kernel
theorem dX5_takeEnd_21 : decode cX5_takeEnd 21 = .ok (.aload_n 0, 1) := by decide +kernel
theorem dX5_takeEnd_22 : decode cX5_takeEnd 22 = .ok (.iconst 1, 1) := by decide +kernel
theorem dX5_takeEnd_23 : decode cX5_takeEnd 23 = .ok (.invokevirtual 79, 3) := by decide +kernel
theorem dX5_takeEnd_26 : decode cX5_takeEnd 26 = .ok (.return_, 1) := by decide +kernel
theorem dX5_takeWay_0 : decode cX5_takeWay 0 = .ok (.iconst 0, 1) := by decide +kernel
theorem dX5_takeWay_1 : decode cX5_takeWay 1 = .ok (.istore_n 1, 1) := by decide +kernel
theorem dX5_takeWay_2 : decode cX5_takeWay 2 = .ok (.iload_n 1, 1) := by decide +kernel
theorem dX5_takeWay_3 : decode cX5_takeWay 3 = .ok (.bipush 8, 2) := by decide +kernel
theorem dX5_takeWay_5 : decode cX5_takeWay 5 = .ok (.if_icmp .ge 32, 3) := by decide +kernel
theorem dX5_takeWay_8 : decode cX5_takeWay 8 = .ok (.aload_n 0, 1) := by decide +kernel
theorem dX5_takeWay_9 : decode cX5_takeWay 9 = .ok (.getfield 14, 3) := by decide +kernel
theorem dX5_takeWay_12 : decode cX5_takeWay 12 = .ok (.iload_n 1, 1) := by decide +kernel
theorem dX5_takeWay_13 : decode cX5_takeWay 13 = .ok (.invokestatic 188, 3) := by decide +kernel
theorem dX5_takeWay_16 : decode cX5_takeWay 16 = .ok (.invokevirtual 108, 3) := by decide +kernel
theorem dX5_takeWay_19 : decode cX5_takeWay 19 = .ok (.ifCond .eq 12, 3) := by decide +kernel
theorem dX5_takeWay_22 : decode cX5_takeWay 22 = .ok (.aload_n 0, 1) := by decide +kernel
theorem dX5_takeWay_23 : decode cX5_takeWay 23 = .ok (.getfield 14, 3) := by decide +kernel
theorem dX5_takeWay_26 : decode cX5_takeWay 26 = .ok (.invokevirtual 171, 3) := by decide +kernel
theorem dX5_takeWay_29 : decode cX5_takeWay 29 = .ok (.iload_n 1, 1) := by decide +kernel
theorem dX5_takeWay_30 : decode cX5_takeWay 30 = .ok (.ireturn, 1) := by decide +kernel
theorem dX5_takeWay_31 : decode cX5_takeWay 31 = .ok (.iinc 1 1, 3) := by decide +kernel
theorem dX5_takeWay_34 : decode cX5_takeWay 34 = .ok (.goto (-32), 3) := by decide +kernel
theorem dX5_takeWay_37 : decode cX5_takeWay 37 = .ok (.aload_n 0, 1) := by decide +kernel
theorem dX5_takeWay_38 : decode cX5_takeWay 38 = .ok (.iconst 1, 1) := by decide +kernel
theorem dX5_takeWay_39 : decode cX5_takeWay 39 = .ok (.invokevirtual 79, 3) := by decide +kernel
theorem dX5_takeWay_42 : decode cX5_takeWay 42 = .ok (.iconst 0, 1) := by decide +kernel
theorem dX5_takeWay_43 : decode cX5_takeWay 43 = .ok (.ireturn, 1) := by decide +kernel
theorem dX5_takeKind_0 : decode cX5_takeKind 0 = .ok (.iconst 1, 1) := by decide +kernel
theorem dX5_takeKind_1 : decode cX5_takeKind 1 = .ok (.istore_n 1, 1) := by decide +kernel
theorem dX5_takeKind_2 : decode cX5_takeKind 2 = .ok (.iload_n 1, 1) := by decide +kernel
theorem dX5_takeKind_3 : decode cX5_takeKind 3 = .ok (.bipush 8, 2) := by decide +kernel
theorem dX5_takeKind_5 : decode cX5_takeKind 5 = .ok (.if_icmp .ge 32, 3) := by decide +kernel
theorem dX5_takeKind_8 : decode cX5_takeKind 8 = .ok (.aload_n 0, 1) := by decide +kernel
theorem dX5_takeKind_9 : decode cX5_takeKind 9 = .ok (.getfield 14, 3) := by decide +kernel
theorem dX5_takeKind_12 : decode cX5_takeKind 12 = .ok (.iload_n 1, 1) := by decide +kernel
theorem dX5_takeKind_13 : decode cX5_takeKind 13 = .ok (.invokestatic 192, 3) := by decide +kernel
theorem dX5_takeKind_16 : decode cX5_takeKind 16 = .ok (.invokevirtual 108, 3) := by decide +kernel
theorem dX5_takeKind_19 : decode cX5_takeKind 19 = .ok (.ifCond .eq 12, 3) := by decide +kernel
theorem dX5_takeKind_22 : decode cX5_takeKind 22 = .ok (.aload_n 0, 1) := by decide +kernel
theorem dX5_takeKind_23 : decode cX5_takeKind 23 = .ok (.getfield 14, 3) := by decide +kernel
theorem dX5_takeKind_26 : decode cX5_takeKind 26 = .ok (.invokevirtual 171, 3) := by decide +kernel
theorem dX5_takeKind_29 : decode cX5_takeKind 29 = .ok (.iload_n 1, 1) := by decide +kernel
theorem dX5_takeKind_30 : decode cX5_takeKind 30 = .ok (.ireturn, 1) := by decide +kernel
theorem dX5_takeKind_31 : decode cX5_takeKind 31 = .ok (.iinc 1 1, 3) := by decide +kernel
theorem dX5_takeKind_34 : decode cX5_takeKind 34 = .ok (.goto (-32), 3) := by decide +kernel
theorem dX5_takeKind_37 : decode cX5_takeKind 37 = .ok (.aload_n 0, 1) := by decide +kernel
theorem dX5_takeKind_38 : decode cX5_takeKind 38 = .ok (.iconst 1, 1) := by decide +kernel
theorem dX5_takeKind_39 : decode cX5_takeKind 39 = .ok (.invokevirtual 79, 3) := by decide +kernel
theorem dX5_takeKind_42 : decode cX5_takeKind 42 = .ok (.iconst 1, 1) := by decide +kernel
theorem dX5_takeKind_43 : decode cX5_takeKind 43 = .ok (.ireturn, 1) := by decide +kernel
theorem dX5_fail_0 : decode cX5_fail 0 = .ok (.aload_n 0, 1) := by decide +kernel
theorem dX5_fail_1 : decode cX5_fail 1 = .ok (.getfield 20, 3) := by decide +kernel
theorem dX5_fail_4 : decode cX5_fail 4 = .ok (.ifCond .ne 19, 3) := by decide +kernel
theorem dX5_fail_7 : decode cX5_fail 7 = .ok (.aload_n 0, 1) := by decide +kernel
theorem dX5_fail_8 : decode cX5_fail 8 = .ok (.iload_n 1, 1) := by decide +kernel
theorem dX5_fail_9 : decode cX5_fail 9 = .ok (.putfield 20, 3) := by decide +kernel
theorem dX5_fail_12 : decode cX5_fail 12 = .ok (.aload_n 0, 1) := by decide +kernel
theorem dX5_fail_13 : decode cX5_fail 13 = .ok (.aload_n 0, 1) := by decide +kernel
theorem dX5_fail_14 : decode cX5_fail 14 = .ok (.getfield 14, 3) := by decide +kernel
theorem dX5_fail_17 : decode cX5_fail 17 = .ok (.getfield 195, 3) := by decide +kernel
theorem dX5_fail_20 : decode cX5_fail 20 = .ok (.putfield 24, 3) := by decide +kernel
theorem dX5_fail_23 : decode cX5_fail 23 = .ok (.return_, 1) := by decide +kernel
theorem dX5_wayName_0 : decode cX5_wayName 0 = .ok (.iload_n 0, 1) := by decide +kernel
theorem dX5_wayName_1 : decode cX5_wayName 1 = .ok (.tableswitch 64 0 6 #[43, 46, 49, 52, 55, 58, 61], 43) := by decide +kernel
theorem dX5_wayName_44 : decode cX5_wayName 44 = .ok (.ldc 198, 2) := by decide +kernel
theorem dX5_wayName_46 : decode cX5_wayName 46 = .ok (.areturn, 1) := by decide +kernel
theorem dX5_wayName_47 : decode cX5_wayName 47 = .ok (.ldc 200, 2) := by decide +kernel
theorem dX5_wayName_49 : decode cX5_wayName 49 = .ok (.areturn, 1) := by decide +kernel
theorem dX5_wayName_50 : decode cX5_wayName 50 = .ok (.ldc 202, 2) := by decide +kernel
theorem dX5_wayName_52 : decode cX5_wayName 52 = .ok (.areturn, 1) := by decide +kernel
theorem dX5_wayName_53 : decode cX5_wayName 53 = .ok (.ldc 204, 2) := by decide +kernel
theorem dX5_wayName_55 : decode cX5_wayName 55 = .ok (.areturn, 1) := by decide +kernel
theorem dX5_wayName_56 : decode cX5_wayName 56 = .ok (.ldc 206, 2) := by decide +kernel
theorem dX5_wayName_58 : decode cX5_wayName 58 = .ok (.areturn, 1) := by decide +kernel
theorem dX5_wayName_59 : decode cX5_wayName 59 = .ok (.ldc 208, 2) := by decide +kernel
theorem dX5_wayName_61 : decode cX5_wayName 61 = .ok (.areturn, 1) := by decide +kernel
theorem dX5_wayName_62 : decode cX5_wayName 62 = .ok (.ldc 210, 2) := by decide +kernel
theorem dX5_wayName_64 : decode cX5_wayName 64 = .ok (.areturn, 1) := by decide +kernel
theorem dX5_wayName_65 : decode cX5_wayName 65 = .ok (.ldc 212, 2) := by decide +kernel
theorem dX5_wayName_67 : decode cX5_wayName 67 = .ok (.areturn, 1) := by decide +kernel
theorem dX5_kindName_0 : decode cX5_kindName 0 = .ok (.iload_n 0, 1) := by decide +kernel
theorem dX5_kindName_1 : decode cX5_kindName 1 = .ok (.tableswitch 57 1 6 #[39, 42, 45, 48, 51, 54], 39) := by decide +kernel
theorem dX5_kindName_40 : decode cX5_kindName 40 = .ok (.ldc 214, 2) := by decide +kernel
theorem dX5_kindName_42 : decode cX5_kindName 42 = .ok (.areturn, 1) := by decide +kernel
theorem dX5_kindName_43 : decode cX5_kindName 43 = .ok (.ldc 216, 2) := by decide +kernel
theorem dX5_kindName_45 : decode cX5_kindName 45 = .ok (.areturn, 1) := by decide +kernel
theorem dX5_kindName_46 : decode cX5_kindName 46 = .ok (.ldc 218, 2) := by decide +kernel
theorem dX5_kindName_48 : decode cX5_kindName 48 = .ok (.areturn, 1) := by decide +kernel
theorem dX5_kindName_49 : decode cX5_kindName 49 = .ok (.ldc 220, 2) := by decide +kernel
theorem dX5_kindName_51 : decode cX5_kindName 51 = .ok (.areturn, 1) := by decide +kernel
theorem dX5_kindName_52 : decode cX5_kindName 52 = .ok (.ldc 222, 2) := by decide +kernel
theorem dX5_kindName_54 : decode cX5_kindName 54 = .ok (.areturn, 1) := by decide +kernel
theorem dX5_kindName_55 : decode cX5_kindName 55 = .ok (.ldc 224, 2) := by decide +kernel
theorem dX5_kindName_57 : decode cX5_kindName 57 = .ok (.areturn, 1) := by decide +kernel
theorem dX5_kindName_58 : decode cX5_kindName 58 = .ok (.ldc 226, 2) := by decide +kernel
theorem dX5_kindName_60 : decode cX5_kindName 60 = .ok (.areturn, 1) := by decide +kernel
theorem dX6_init_0 : decode cX6_init 0 = .ok (.aload_n 0, 1) := by decide +kernel
theorem dX6_init_1 : decode cX6_init 1 = .ok (.invokespecial 3, 3) := by decide +kernel
theorem dX6_init_4 : decode cX6_init 4 = .ok (.aload_n 0, 1) := by decide +kernel
theorem dX6_init_5 : decode cX6_init 5 = .ok (.bipush 40, 2) := by decide +kernel
theorem dX6_init_7 : decode cX6_init 7 = .ok (.newarray .int, 2) := by decide +kernel
theorem dX6_init_9 : decode cX6_init 9 = .ok (.putfield 9, 3) := by decide +kernel
theorem dX6_init_12 : decode cX6_init 12 = .ok (.aload_n 0, 1) := by decide +kernel
theorem dX6_init_13 : decode cX6_init 13 = .ok (.iconst (-1), 1) := by decide +kernel
theorem dX6_init_14 : decode cX6_init 14 = .ok (.putfield 15, 3) := by decide +kernel
theorem dX6_init_17 : decode cX6_init 17 = .ok (.return_, 1) := by decide +kernel
theorem dX6_isMissing_0 : decode cX6_isMissing 0 = .ok (.aload_n 0, 1) := by decide +kernel
theorem dX6_isMissing_1 : decode cX6_isMissing 1 = .ok (.getfield 15, 3) := by decide +kernel
theorem dX6_isMissing_4 : decode cX6_isMissing 4 = .ok (.iconst (-1), 1) := by decide +kernel
theorem dX6_isMissing_5 : decode cX6_isMissing 5 = .ok (.if_icmp .ne 7, 3) := by decide +kernel
theorem dX6_isMissing_8 : decode cX6_isMissing 8 = .ok (.iconst 1, 1) := by decide +kernel
theorem dX6_isMissing_9 : decode cX6_isMissing 9 = .ok (.goto 4, 3) := by decide +kernel
theorem dX6_isMissing_12 : decode cX6_isMissing 12 = .ok (.iconst 0, 1) := by decide +kernel
theorem dX6_isMissing_13 : decode cX6_isMissing 13 = .ok (.ireturn, 1) := by decide +kernel
theorem dX6_begin_0 : decode cX6_begin 0 = .ok (.aload_n 0, 1) := by decide +kernel
theorem dX6_begin_1 : decode cX6_begin 1 = .ok (.iload_n 1, 1) := by decide +kernel
theorem dX6_begin_2 : decode cX6_begin 2 = .ok (.putfield 15, 3) := by decide +kernel
theorem dX6_begin_5 : decode cX6_begin 5 = .ok (.aload_n 0, 1) := by decide +kernel
theorem dX6_begin_6 : decode cX6_begin 6 = .ok (.iload_n 2, 1) := by decide +kernel
theorem dX6_begin_7 : decode cX6_begin 7 = .ok (.putfield 19, 3) := by decide +kernel
theorem dX6_begin_10 : decode cX6_begin 10 = .ok (.iconst 0, 1) := by decide +kernel
theorem dX6_begin_11 : decode cX6_begin 11 = .ok (.istore_n 3, 1) := by decide +kernel
theorem dX6_begin_12 : decode cX6_begin 12 = .ok (.iload_n 3, 1) := by decide +kernel
theorem dX6_begin_13 : decode cX6_begin 13 = .ok (.bipush 40, 2) := by decide +kernel
theorem dX6_begin_15 : decode cX6_begin 15 = .ok (.if_icmp .ge 16, 3) := by decide +kernel
theorem dX6_begin_18 : decode cX6_begin 18 = .ok (.aload_n 0, 1) := by decide +kernel
theorem dX6_begin_19 : decode cX6_begin 19 = .ok (.getfield 9, 3) := by decide +kernel
theorem dX6_begin_22 : decode cX6_begin 22 = .ok (.iload_n 3, 1) := by decide +kernel
theorem dX6_begin_23 : decode cX6_begin 23 = .ok (.iconst 0, 1) := by decide +kernel
theorem dX6_begin_24 : decode cX6_begin 24 = .ok (.iastore, 1) := by decide +kernel
theorem dX6_begin_25 : decode cX6_begin 25 = .ok (.iinc 3 1, 3) := by decide +kernel
theorem dX6_begin_28 : decode cX6_begin 28 = .ok (.goto (-16), 3) := by decide +kernel
theorem dX6_begin_31 : decode cX6_begin 31 = .ok (.return_, 1) := by decide +kernel
theorem dX6_vanish_0 : decode cX6_vanish 0 = .ok (.aload_n 0, 1) := by decide +kernel
theorem dX6_vanish_1 : decode cX6_vanish 1 = .ok (.iconst (-1), 1) := by decide +kernel
theorem dX6_vanish_2 : decode cX6_vanish 2 = .ok (.putfield 15, 3) := by decide +kernel
theorem dX6_vanish_5 : decode cX6_vanish 5 = .ok (.aload_n 0, 1) := by decide +kernel
theorem dX6_vanish_6 : decode cX6_vanish 6 = .ok (.iconst 0, 1) := by decide +kernel
theorem dX6_vanish_7 : decode cX6_vanish 7 = .ok (.putfield 19, 3) := by decide +kernel
theorem dX6_vanish_10 : decode cX6_vanish 10 = .ok (.return_, 1) := by decide +kernel
theorem dX6_holds_0 : decode cX6_holds 0 = .ok (.iload_n 1, 1) := by decide +kernel
theorem dX6_holds_1 : decode cX6_holds 1 = .ok (.ifCond .lt 21, 3) := by decide +kernel
theorem dX6_holds_4 : decode cX6_holds 4 = .ok (.iload_n 2, 1) := by decide +kernel
theorem dX6_holds_5 : decode cX6_holds 5 = .ok (.ifCond .lt 17, 3) := by decide +kernel
theorem dX6_holds_8 : decode cX6_holds 8 = .ok (.iload_n 1, 1) := by decide +kernel
theorem dX6_holds_9 : decode cX6_holds 9 = .ok (.aload_n 0, 1) := by decide +kernel
theorem dX6_holds_10 : decode cX6_holds 10 = .ok (.getfield 19, 3) := by decide +kernel
theorem dX6_holds_13 : decode cX6_holds 13 = .ok (.iload_n 2, 1) := by decide +kernel
theorem dX6_holds_14 : decode cX6_holds 14 = .ok (.isub, 1) := by decide +kernel
theorem dX6_holds_15 : decode cX6_holds 15 = .ok (.if_icmp .gt 7, 3) := by decide +kernel
theorem dX6_holds_18 : decode cX6_holds 18 = .ok (.iconst 1, 1) := by decide +kernel
theorem dX6_holds_19 : decode cX6_holds 19 = .ok (.goto 4, 3) := by decide +kernel
theorem dX6_holds_22 : decode cX6_holds 22 = .ok (.iconst 0, 1) := by decide +kernel
theorem dX6_holds_23 : decode cX6_holds 23 = .ok (.ireturn, 1) := by decide +kernel
theorem dX6_write_0 : decode cX6_write 0 = .ok (.aload_n 0, 1) := by decide +kernel
theorem dX6_write_1 : decode cX6_write 1 = .ok (.getfield 15, 3) := by decide +kernel
theorem dX6_write_4 : decode cX6_write 4 = .ok (.ifCond .ne 14, 3) := by decide +kernel
theorem dX6_write_7 : decode cX6_write 7 = .ok (.aload_n 0, 1) := by decide +kernel
theorem dX6_write_8 : decode cX6_write 8 = .ok (.getfield 9, 3) := by decide +kernel
theorem dX6_write_11 : decode cX6_write 11 = .ok (.iload_n 1, 1) := by decide +kernel
theorem dX6_write_12 : decode cX6_write 12 = .ok (.iload_n 2, 1) := by decide +kernel
theorem dX6_write_13 : decode cX6_write 13 = .ok (.i2b, 1) := by decide +kernel
theorem dX6_write_14 : decode cX6_write 14 = .ok (.iastore, 1) := by decide +kernel
theorem dX6_write_15 : decode cX6_write 15 = .ok (.goto 29, 3) := by decide +kernel
theorem dX6_write_18 : decode cX6_write 18 = .ok (.aload_n 0, 1) := by decide +kernel
theorem dX6_write_19 : decode cX6_write 19 = .ok (.getfield 15, 3) := by decide +kernel
theorem dX6_write_22 : decode cX6_write 22 = .ok (.iconst 1, 1) := by decide +kernel
theorem dX6_write_23 : decode cX6_write 23 = .ok (.if_icmp .ne 14, 3) := by decide +kernel
theorem dX6_write_26 : decode cX6_write 26 = .ok (.aload_n 0, 1) := by decide +kernel
theorem dX6_write_27 : decode cX6_write 27 = .ok (.getfield 9, 3) := by decide +kernel
theorem dX6_write_30 : decode cX6_write 30 = .ok (.iload_n 1, 1) := by decide +kernel
theorem dX6_write_31 : decode cX6_write 31 = .ok (.iload_n 2, 1) := by decide +kernel
theorem dX6_write_32 : decode cX6_write 32 = .ok (.i2s, 1) := by decide +kernel
theorem dX6_write_33 : decode cX6_write 33 = .ok (.iastore, 1) := by decide +kernel
theorem dX6_write_34 : decode cX6_write 34 = .ok (.goto 10, 3) := by decide +kernel
theorem dX6_write_37 : decode cX6_write 37 = .ok (.aload_n 0, 1) := by decide +kernel
theorem dX6_write_38 : decode cX6_write 38 = .ok (.getfield 9, 3) := by decide +kernel
theorem dX6_write_41 : decode cX6_write 41 = .ok (.iload_n 1, 1) := by decide +kernel
theorem dX6_write_42 : decode cX6_write 42 = .ok (.iload_n 2, 1) := by decide +kernel
theorem dX6_write_43 : decode cX6_write 43 = .ok (.iastore, 1) := by decide +kernel
theorem dX6_write_44 : decode cX6_write 44 = .ok (.aload_n 0, 1) := by decide +kernel
theorem dX6_write_45 : decode cX6_write 45 = .ok (.getfield 9, 3) := by decide +kernel
theorem dX6_write_48 : decode cX6_write 48 = .ok (.iload_n 1, 1) := by decide +kernel
theorem dX6_write_49 : decode cX6_write 49 = .ok (.iaload, 1) := by decide +kernel
theorem dX6_write_50 : decode cX6_write 50 = .ok (.ireturn, 1) := by decide +kernel
theorem dX6_isAllWithin_0 : decode cX6_isAllWithin 0 = .ok (.iload_n 1, 1) := by decide +kernel
theorem dX6_isAllWithin_1 : decode cX6_isAllWithin 1 = .ok (.istore 4, 2) := by decide +kernel
theorem dX6_isAllWithin_3 : decode cX6_isAllWithin 3 = .ok (.iload 4, 2) := by decide +kernel
theorem dX6_isAllWithin_5 : decode cX6_isAllWithin 5 = .ok (.iload_n 1, 1) := by decide +kernel
theorem dX6_isAllWithin_6 : decode cX6_isAllWithin 6 = .ok (.iload_n 2, 1) := by decide +kernel
theorem dX6_isAllWithin_7 : decode cX6_isAllWithin 7 = .ok (.iadd, 1) := by decide +kernel
theorem dX6_isAllWithin_8 : decode cX6_isAllWithin 8 = .ok (.if_icmp .ge 26, 3) := by decide +kernel
theorem dX6_isAllWithin_11 : decode cX6_isAllWithin 11 = .ok (.aload_n 0, 1) := by decide +kernel
theorem dX6_isAllWithin_12 : decode cX6_isAllWithin 12 = .ok (.getfield 9, 3) := by decide +kernel
theorem dX6_isAllWithin_15 : decode cX6_isAllWithin 15 = .ok (.iload 4, 2) := by decide +kernel
theorem dX6_isAllWithin_17 : decode cX6_isAllWithin 17 = .ok (.iaload, 1) := by decide +kernel
theorem dX6_isAllWithin_18 : decode cX6_isAllWithin 18 = .ok (.iconst 0, 1) := by decide +kernel
theorem dX6_isAllWithin_19 : decode cX6_isAllWithin 19 = .ok (.iload_n 3, 1) := by decide +kernel
theorem dX6_isAllWithin_20 : decode cX6_isAllWithin 20 = .ok (.invokestatic 22, 3) := by decide +kernel
theorem dX6_isAllWithin_23 : decode cX6_isAllWithin 23 = .ok (.ifCond .ne 5, 3) := by decide +kernel
theorem dX6_isAllWithin_26 : decode cX6_isAllWithin 26 = .ok (.iconst 0, 1) := by decide +kernel
theorem dX6_isAllWithin_27 : decode cX6_isAllWithin 27 = .ok (.ireturn, 1) := by decide +kernel
theorem dX6_isAllWithin_28 : decode cX6_isAllWithin 28 = .ok (.iinc 4 1, 3) := by decide +kernel
theorem dX6_isAllWithin_31 : decode cX6_isAllWithin 31 = .ok (.goto (-28), 3) := by decide +kernel
theorem dX6_isAllWithin_34 : decode cX6_isAllWithin 34 = .ok (.iconst 1, 1) := by decide +kernel
theorem dX6_isAllWithin_35 : decode cX6_isAllWithin 35 = .ok (.ireturn, 1) := by decide +kernel
theorem dX7_init_0 : decode cX7_init 0 = .ok (.aload_n 0, 1) := by decide +kernel
theorem dX7_init_1 : decode cX7_init 1 = .ok (.invokespecial 3, 3) := by decide +kernel
theorem dX7_init_4 : decode cX7_init 4 = .ok (.aload_n 0, 1) := by decide +kernel
theorem dX7_init_5 : decode cX7_init 5 = .ok (.sipush 600, 3) := by decide +kernel
theorem dX7_init_8 : decode cX7_init 8 = .ok (.newarray .byte, 2) := by decide +kernel
theorem dX7_init_10 : decode cX7_init 10 = .ok (.putfield 9, 3) := by decide +kernel
theorem dX7_init_13 : decode cX7_init 13 = .ok (.return_, 1) := by decide +kernel
theorem dX7_append_0 : decode cX7_append 0 = .ok (.iload_n 3, 1) := by decide +kernel
theorem dX7_append_1 : decode cX7_append 1 = .ok (.iconst 1, 1) := by decide +kernel
theorem dX7_append_2 : decode cX7_append 2 = .ok (.isub, 1) := by decide +kernel
theorem dX7_append_3 : decode cX7_append 3 = .ok (.istore 4, 2) := by decide +kernel
theorem dX7_append_5 : decode cX7_append 5 = .ok (.iload 4, 2) := by decide +kernel
theorem dX7_append_7 : decode cX7_append 7 = .ok (.ifCond .lt 47, 3) := by decide +kernel
theorem dX7_append_10 : decode cX7_append 10 = .ok (.aload_n 0, 1) := by decide +kernel
theorem dX7_append_11 : decode cX7_append 11 = .ok (.getfield 15, 3) := by decide +kernel
theorem dX7_append_14 : decode cX7_append 14 = .ok (.sipush 600, 3) := by decide +kernel
theorem dX7_append_17 : decode cX7_append 17 = .ok (.if_icmp .ge 37, 3) := by decide +kernel
theorem dX7_append_20 : decode cX7_append 20 = .ok (.aload_n 0, 1) := by decide +kernel
theorem dX7_append_21 : decode cX7_append 21 = .ok (.getfield 9, 3) := by decide +kernel
theorem dX7_append_24 : decode cX7_append 24 = .ok (.aload_n 0, 1) := by decide +kernel
theorem dX7_append_25 : decode cX7_append 25 = .ok (.getfield 15, 3) := by decide +kernel
theorem dX7_append_28 : decode cX7_append 28 = .ok (.lload_n 1, 1) := by decide +kernel
theorem dX7_append_29 : decode cX7_append 29 = .ok (.bipush 8, 2) := by decide +kernel
theorem dX7_append_31 : decode cX7_append 31 = .ok (.iload 4, 2) := by decide +kernel
theorem dX7_append_33 : decode cX7_append 33 = .ok (.imul, 1) := by decide +kernel
theorem dX7_append_34 : decode cX7_append 34 = .ok (.lushr, 1) := by decide +kernel
theorem dX7_append_35 : decode cX7_append 35 = .ok (.l2i, 1) := by decide +kernel
theorem dX7_append_36 : decode cX7_append 36 = .ok (.i2b, 1) := by decide +kernel
theorem dX7_append_37 : decode cX7_append 37 = .ok (.bastore, 1) := by decide +kernel
theorem dX7_append_38 : decode cX7_append 38 = .ok (.aload_n 0, 1) := by decide +kernel
theorem dX7_append_39 : decode cX7_append 39 = .ok (.dup, 1) := by decide +kernel
theorem dX7_append_40 : decode cX7_append 40 = .ok (.getfield 15, 3) := by decide +kernel
theorem dX7_append_43 : decode cX7_append 43 = .ok (.iconst 1, 1) := by decide +kernel
theorem dX7_append_44 : decode cX7_append 44 = .ok (.iadd, 1) := by decide +kernel
theorem dX7_append_45 : decode cX7_append 45 = .ok (.putfield 15, 3) := by decide +kernel
theorem dX7_append_48 : decode cX7_append 48 = .ok (.iinc 4 (-1), 3) := by decide +kernel
theorem dX7_append_51 : decode cX7_append 51 = .ok (.goto (-46), 3) := by decide +kernel
theorem dX7_append_54 : decode cX7_append 54 = .ok (.return_, 1) := by decide +kernel
theorem dX7_empty_0 : decode cX7_empty 0 = .ok (.aload_n 0, 1) := by decide +kernel
theorem dX7_empty_1 : decode cX7_empty 1 = .ok (.iconst 0, 1) := by decide +kernel
theorem dX7_empty_2 : decode cX7_empty 2 = .ok (.putfield 15, 3) := by decide +kernel
theorem dX7_empty_5 : decode cX7_empty 5 = .ok (.return_, 1) := by decide +kernel
theorem dX8_init_0 : decode cX8_init 0 = .ok (.aload_n 0, 1) := by decide +kernel
theorem dX8_init_1 : decode cX8_init 1 = .ok (.invokespecial 1, 3) := by decide +kernel
theorem dX8_init_4 : decode cX8_init 4 = .ok (.aload_n 0, 1) := by decide +kernel
theorem dX8_init_5 : decode cX8_init 5 = .ok (.aload_n 1, 1) := by decide +kernel
theorem dX8_init_6 : decode cX8_init 6 = .ok (.putfield 7, 3) := by decide +kernel
theorem dX8_init_9 : decode cX8_init 9 = .ok (.return_, 1) := by decide +kernel
theorem dX8_rewind_0 : decode cX8_rewind 0 = .ok (.aload_n 0, 1) := by decide +kernel
theorem dX8_rewind_1 : decode cX8_rewind 1 = .ok (.iconst 0, 1) := by decide +kernel
theorem dX8_rewind_2 : decode cX8_rewind 2 = .ok (.putfield 13, 3) := by decide +kernel
theorem dX8_rewind_5 : decode cX8_rewind 5 = .ok (.aload_n 0, 1) := by decide +kernel
theorem dX8_rewind_6 : decode cX8_rewind 6 = .ok (.invokevirtual 17, 3) := by decide +kernel
theorem dX8_rewind_9 : decode cX8_rewind 9 = .ok (.return_, 1) := by decide +kernel
theorem dX8_advance_0 : decode cX8_advance 0 = .ok (.aload_n 0, 1) := by decide +kernel
theorem dX8_advance_1 : decode cX8_advance 1 = .ok (.aload_n 0, 1) := by decide +kernel
theorem dX8_advance_2 : decode cX8_advance 2 = .ok (.getfield 13, 3) := by decide +kernel
theorem dX8_advance_5 : decode cX8_advance 5 = .ok (.putfield 20, 3) := by decide +kernel
theorem dX8_advance_8 : decode cX8_advance 8 = .ok (.aload_n 0, 1) := by decide +kernel
theorem dX8_advance_9 : decode cX8_advance 9 = .ok (.getfield 20, 3) := by decide +kernel
theorem dX8_advance_12 : decode cX8_advance 12 = .ok (.aload_n 0, 1) := by decide +kernel
theorem dX8_advance_13 : decode cX8_advance 13 = .ok (.getfield 7, 3) := by decide +kernel
theorem dX8_advance_16 : decode cX8_advance 16 = .ok (.getfield 23, 3) := by decide +kernel
theorem dX8_advance_19 : decode cX8_advance 19 = .ok (.if_icmp .ge 34, 3) := by decide +kernel
theorem dX8_advance_22 : decode cX8_advance 22 = .ok (.aload_n 0, 1) := by decide +kernel
theorem dX8_advance_23 : decode cX8_advance 23 = .ok (.getfield 7, 3) := by decide +kernel
theorem dX8_advance_26 : decode cX8_advance 26 = .ok (.getfield 28, 3) := by decide +kernel
theorem dX8_advance_29 : decode cX8_advance 29 = .ok (.aload_n 0, 1) := by decide +kernel
theorem dX8_advance_30 : decode cX8_advance 30 = .ok (.getfield 20, 3) := by decide +kernel
theorem dX8_advance_33 : decode cX8_advance 33 = .ok (.baload, 1) := by decide +kernel
theorem dX8_advance_34 : decode cX8_advance 34 = .ok (.invokestatic 32, 3) := by decide +kernel
theorem dX8_advance_37 : decode cX8_advance 37 = .ok (.ifCond .eq 16, 3) := by decide +kernel
theorem dX8_advance_40 : decode cX8_advance 40 = .ok (.aload_n 0, 1) := by decide +kernel
theorem dX8_advance_41 : decode cX8_advance 41 = .ok (.dup, 1) := by decide +kernel
theorem dX8_advance_42 : decode cX8_advance 42 = .ok (.getfield 20, 3) := by decide +kernel
theorem dX8_advance_45 : decode cX8_advance 45 = .ok (.iconst 1, 1) := by decide +kernel
theorem dX8_advance_46 : decode cX8_advance 46 = .ok (.iadd, 1) := by decide +kernel
theorem dX8_advance_47 : decode cX8_advance 47 = .ok (.putfield 20, 3) := by decide +kernel
theorem dX8_advance_50 : decode cX8_advance 50 = .ok (.goto (-42), 3) := by decide +kernel
theorem dX8_advance_53 : decode cX8_advance 53 = .ok (.aload_n 0, 1) := by decide +kernel
theorem dX8_advance_54 : decode cX8_advance 54 = .ok (.aload_n 0, 1) := by decide +kernel
theorem dX8_advance_55 : decode cX8_advance 55 = .ok (.getfield 20, 3) := by decide +kernel
theorem dX8_advance_58 : decode cX8_advance 58 = .ok (.putfield 13, 3) := by decide +kernel
theorem dX8_advance_61 : decode cX8_advance 61 = .ok (.aload_n 0, 1) := by decide +kernel
theorem dX8_advance_62 : decode cX8_advance 62 = .ok (.getfield 20, 3) := by decide +kernel
theorem dX8_advance_65 : decode cX8_advance 65 = .ok (.aload_n 0, 1) := by decide +kernel
theorem dX8_advance_66 : decode cX8_advance 66 = .ok (.getfield 7, 3) := by decide +kernel
theorem dX8_advance_69 : decode cX8_advance 69 = .ok (.getfield 23, 3) := by decide +kernel
theorem dX8_advance_72 : decode cX8_advance 72 = .ok (.if_icmp .lt 11, 3) := by decide +kernel
theorem dX8_advance_75 : decode cX8_advance 75 = .ok (.aload_n 0, 1) := by decide +kernel
theorem dX8_advance_76 : decode cX8_advance 76 = .ok (.iconst 0, 1) := by decide +kernel
theorem dX8_advance_77 : decode cX8_advance 77 = .ok (.putfield 36, 3) := by decide +kernel
theorem dX8_advance_80 : decode cX8_advance 80 = .ok (.goto 89, 3) := by decide +kernel
theorem dX8_advance_83 : decode cX8_advance 83 = .ok (.aload_n 0, 1) := by decide +kernel
theorem dX8_advance_84 : decode cX8_advance 84 = .ok (.getfield 7, 3) := by decide +kernel
theorem dX8_advance_87 : decode cX8_advance 87 = .ok (.getfield 28, 3) := by decide +kernel
theorem dX8_advance_90 : decode cX8_advance 90 = .ok (.aload_n 0, 1) := by decide +kernel
theorem dX8_advance_91 : decode cX8_advance 91 = .ok (.getfield 20, 3) := by decide +kernel
theorem dX8_advance_94 : decode cX8_advance 94 = .ok (.baload, 1) := by decide +kernel
theorem dX8_advance_95 : decode cX8_advance 95 = .ok (.invokestatic 39, 3) := by decide +kernel
theorem dX8_advance_98 : decode cX8_advance 98 = .ok (.ifCond .eq 10, 3) := by decide +kernel
theorem dX8_advance_101 : decode cX8_advance 101 = .ok (.aload_n 0, 1) := by decide +kernel
theorem dX8_advance_102 : decode cX8_advance 102 = .ok (.invokevirtual 42, 3) := by decide +kernel
theorem dX8_advance_105 : decode cX8_advance 105 = .ok (.goto 64, 3) := by decide +kernel
theorem dX8_advance_108 : decode cX8_advance 108 = .ok (.aload_n 0, 1) := by decide +kernel
theorem dX8_advance_109 : decode cX8_advance 109 = .ok (.getfield 7, 3) := by decide +kernel
theorem dX8_advance_112 : decode cX8_advance 112 = .ok (.getfield 28, 3) := by decide +kernel
theorem dX8_advance_115 : decode cX8_advance 115 = .ok (.aload_n 0, 1) := by decide +kernel
theorem dX8_advance_116 : decode cX8_advance 116 = .ok (.getfield 20, 3) := by decide +kernel
theorem dX8_advance_119 : decode cX8_advance 119 = .ok (.baload, 1) := by decide +kernel
theorem dX8_advance_120 : decode cX8_advance 120 = .ok (.invokestatic 45, 3) := by decide +kernel
theorem dX8_advance_123 : decode cX8_advance 123 = .ok (.ifCond .eq 10, 3) := by decide +kernel
theorem dX8_advance_126 : decode cX8_advance 126 = .ok (.aload_n 0, 1) := by decide +kernel
theorem dX8_advance_127 : decode cX8_advance 127 = .ok (.invokevirtual 48, 3) := by decide +kernel
theorem dX8_advance_130 : decode cX8_advance 130 = .ok (.goto 39, 3) := by decide +kernel
theorem dX8_advance_133 : decode cX8_advance 133 = .ok (.aload_n 0, 1) := by decide +kernel
theorem dX8_advance_134 : decode cX8_advance 134 = .ok (.aload_n 0, 1) := by decide +kernel
theorem dX8_advance_135 : decode cX8_advance 135 = .ok (.getfield 7, 3) := by decide +kernel
theorem dX8_advance_138 : decode cX8_advance 138 = .ok (.getfield 28, 3) := by decide +kernel
theorem dX8_advance_141 : decode cX8_advance 141 = .ok (.aload_n 0, 1) := by decide +kernel
theorem dX8_advance_142 : decode cX8_advance 142 = .ok (.getfield 20, 3) := by decide +kernel
theorem dX8_advance_145 : decode cX8_advance 145 = .ok (.baload, 1) := by decide +kernel
theorem dX8_advance_146 : decode cX8_advance 146 = .ok (.bipush 59, 2) := by decide +kernel
theorem dX8_advance_148 : decode cX8_advance 148 = .ok (.if_icmp .ne 7, 3) := by decide +kernel
theorem dX8_advance_151 : decode cX8_advance 151 = .ok (.iconst 3, 1) := by decide +kernel
theorem dX8_advance_152 : decode cX8_advance 152 = .ok (.goto 4, 3) := by decide +kernel
theorem dX8_advance_155 : decode cX8_advance 155 = .ok (.iconst 4, 1) := by decide +kernel
theorem dX8_advance_156 : decode cX8_advance 156 = .ok (.putfield 36, 3) := by decide +kernel
theorem dX8_advance_159 : decode cX8_advance 159 = .ok (.aload_n 0, 1) := by decide +kernel
theorem dX8_advance_160 : decode cX8_advance 160 = .ok (.aload_n 0, 1) := by decide +kernel
theorem dX8_advance_161 : decode cX8_advance 161 = .ok (.getfield 20, 3) := by decide +kernel
theorem dX8_advance_164 : decode cX8_advance 164 = .ok (.iconst 1, 1) := by decide +kernel
theorem dX8_advance_165 : decode cX8_advance 165 = .ok (.iadd, 1) := by decide +kernel
theorem dX8_advance_166 : decode cX8_advance 166 = .ok (.putfield 13, 3) := by decide +kernel
theorem dX8_advance_169 : decode cX8_advance 169 = .ok (.return_, 1) := by decide +kernel
theorem dX8_isName_0 : decode cX8_isName 0 = .ok (.aload_n 0, 1) := by decide +kernel
theorem dX8_isName_1 : decode cX8_isName 1 = .ok (.getfield 36, 3) := by decide +kernel
theorem dX8_isName_4 : decode cX8_isName 4 = .ok (.iconst 1, 1) := by decide +kernel
theorem dX8_isName_5 : decode cX8_isName 5 = .ok (.if_icmp .ne 19, 3) := by decide +kernel
theorem dX8_isName_8 : decode cX8_isName 8 = .ok (.aload_n 0, 1) := by decide +kernel
theorem dX8_isName_9 : decode cX8_isName 9 = .ok (.getfield 13, 3) := by decide +kernel
theorem dX8_isName_12 : decode cX8_isName 12 = .ok (.aload_n 0, 1) := by decide +kernel
theorem dX8_isName_13 : decode cX8_isName 13 = .ok (.getfield 20, 3) := by decide +kernel
theorem dX8_isName_16 : decode cX8_isName 16 = .ok (.isub, 1) := by decide +kernel
theorem dX8_isName_17 : decode cX8_isName 17 = .ok (.aload_n 1, 1) := by decide +kernel
theorem dX8_isName_18 : decode cX8_isName 18 = .ok (.invokevirtual 51, 3) := by decide +kernel
theorem dX8_isName_21 : decode cX8_isName 21 = .ok (.if_icmp .eq 5, 3) := by decide +kernel
theorem dX8_isName_24 : decode cX8_isName 24 = .ok (.iconst 0, 1) := by decide +kernel
theorem dX8_isName_25 : decode cX8_isName 25 = .ok (.ireturn, 1) := by decide +kernel
theorem dX8_isName_26 : decode cX8_isName 26 = .ok (.iconst 0, 1) := by decide +kernel
theorem dX8_isName_27 : decode cX8_isName 27 = .ok (.istore_n 2, 1) := by decide +kernel
theorem dX8_isName_28 : decode cX8_isName 28 = .ok (.iload_n 2, 1) := by decide +kernel
theorem dX8_isName_29 : decode cX8_isName 29 = .ok (.aload_n 1, 1) := by decide +kernel
theorem dX8_isName_30 : decode cX8_isName 30 = .ok (.invokevirtual 51, 3) := by decide +kernel
theorem dX8_isName_33 : decode cX8_isName 33 = .ok (.if_icmp .ge 33, 3) := by decide +kernel
theorem dX8_isName_36 : decode cX8_isName 36 = .ok (.aload_n 0, 1) := by decide +kernel
theorem dX8_isName_37 : decode cX8_isName 37 = .ok (.getfield 7, 3) := by decide +kernel
theorem dX8_isName_40 : decode cX8_isName 40 = .ok (.getfield 28, 3) := by decide +kernel
theorem dX8_isName_43 : decode cX8_isName 43 = .ok (.aload_n 0, 1) := by decide +kernel
theorem dX8_isName_44 : decode cX8_isName 44 = .ok (.getfield 20, 3) := by decide +kernel
theorem dX8_isName_47 : decode cX8_isName 47 = .ok (.iload_n 2, 1) := by decide +kernel
theorem dX8_isName_48 : decode cX8_isName 48 = .ok (.iadd, 1) := by decide +kernel
theorem dX8_isName_49 : decode cX8_isName 49 = .ok (.baload, 1) := by decide +kernel
theorem dX8_isName_50 : decode cX8_isName 50 = .ok (.aload_n 1, 1) := by decide +kernel
theorem dX8_isName_51 : decode cX8_isName 51 = .ok (.iload_n 2, 1) := by decide +kernel
theorem dX8_isName_52 : decode cX8_isName 52 = .ok (.invokevirtual 56, 3) := by decide +kernel
theorem dX8_isName_55 : decode cX8_isName 55 = .ok (.if_icmp .eq 5, 3) := by decide +kernel
theorem dX8_isName_58 : decode cX8_isName 58 = .ok (.iconst 0, 1) := by decide +kernel
theorem dX8_isName_59 : decode cX8_isName 59 = .ok (.ireturn, 1) := by decide +kernel
theorem dX8_isName_60 : decode cX8_isName 60 = .ok (.iinc 2 1, 3) := by decide +kernel
theorem dX8_isName_63 : decode cX8_isName 63 = .ok (.goto (-35), 3) := by decide +kernel
theorem dX8_isName_66 : decode cX8_isName 66 = .ok (.iconst 1, 1) := by decide +kernel
theorem dX8_isName_67 : decode cX8_isName 67 = .ok (.ireturn, 1) := by decide +kernel
theorem dX8_takeName_0 : decode cX8_takeName 0 = .ok (.aload_n 0, 1) := by decide +kernel
theorem dX8_takeName_1 : decode cX8_takeName 1 = .ok (.getfield 13, 3) := by decide +kernel
theorem dX8_takeName_4 : decode cX8_takeName 4 = .ok (.aload_n 0, 1) := by decide +kernel
theorem dX8_takeName_5 : decode cX8_takeName 5 = .ok (.getfield 7, 3) := by decide +kernel
theorem dX8_takeName_8 : decode cX8_takeName 8 = .ok (.getfield 23, 3) := by decide +kernel
theorem dX8_takeName_11 : decode cX8_takeName 11 = .ok (.if_icmp .ge 34, 3) := by decide +kernel
theorem dX8_takeName_14 : decode cX8_takeName 14 = .ok (.aload_n 0, 1) := by decide +kernel
theorem dX8_takeName_15 : decode cX8_takeName 15 = .ok (.getfield 7, 3) := by decide +kernel
theorem dX8_takeName_18 : decode cX8_takeName 18 = .ok (.getfield 28, 3) := by decide +kernel
theorem dX8_takeName_21 : decode cX8_takeName 21 = .ok (.aload_n 0, 1) := by decide +kernel
theorem dX8_takeName_22 : decode cX8_takeName 22 = .ok (.getfield 13, 3) := by decide +kernel
theorem dX8_takeName_25 : decode cX8_takeName 25 = .ok (.baload, 1) := by decide +kernel
theorem dX8_takeName_26 : decode cX8_takeName 26 = .ok (.invokestatic 39, 3) := by decide +kernel
theorem dX8_takeName_29 : decode cX8_takeName 29 = .ok (.ifCond .eq 16, 3) := by decide +kernel
theorem dX8_takeName_32 : decode cX8_takeName 32 = .ok (.aload_n 0, 1) := by decide +kernel
theorem dX8_takeName_33 : decode cX8_takeName 33 = .ok (.dup, 1) := by decide +kernel
theorem dX8_takeName_34 : decode cX8_takeName 34 = .ok (.getfield 13, 3) := by decide +kernel
theorem dX8_takeName_37 : decode cX8_takeName 37 = .ok (.iconst 1, 1) := by decide +kernel
theorem dX8_takeName_38 : decode cX8_takeName 38 = .ok (.iadd, 1) := by decide +kernel
theorem dX8_takeName_39 : decode cX8_takeName 39 = .ok (.putfield 13, 3) := by decide +kernel
theorem dX8_takeName_42 : decode cX8_takeName 42 = .ok (.goto (-42), 3) := by decide +kernel
theorem dX8_takeName_45 : decode cX8_takeName 45 = .ok (.aload_n 0, 1) := by decide +kernel
theorem dX8_takeName_46 : decode cX8_takeName 46 = .ok (.iconst 1, 1) := by decide +kernel
theorem dX8_takeName_47 : decode cX8_takeName 47 = .ok (.putfield 36, 3) := by decide +kernel
theorem dX8_takeName_50 : decode cX8_takeName 50 = .ok (.return_, 1) := by decide +kernel
theorem dX8_takeNumber_0 : decode cX8_takeNumber 0 = .ok (.aload_n 0, 1) := by decide +kernel
theorem dX8_takeNumber_1 : decode cX8_takeNumber 1 = .ok (.iconst 0, 1) := by decide +kernel
theorem dX8_takeNumber_2 : decode cX8_takeNumber 2 = .ok (.putfield 60, 3) := by decide +kernel
theorem dX8_takeNumber_5 : decode cX8_takeNumber 5 = .ok (.aload_n 0, 1) := by decide +kernel
theorem dX8_takeNumber_6 : decode cX8_takeNumber 6 = .ok (.getfield 13, 3) := by decide +kernel
theorem dX8_takeNumber_9 : decode cX8_takeNumber 9 = .ok (.aload_n 0, 1) := by decide +kernel
theorem dX8_takeNumber_10 : decode cX8_takeNumber 10 = .ok (.getfield 7, 3) := by decide +kernel
theorem dX8_takeNumber_13 : decode cX8_takeNumber 13 = .ok (.getfield 23, 3) := by decide +kernel
theorem dX8_takeNumber_16 : decode cX8_takeNumber 16 = .ok (.if_icmp .ge 61, 3) := by decide +kernel
theorem dX8_takeNumber_19 : decode cX8_takeNumber 19 = .ok (.aload_n 0, 1) := by decide +kernel
theorem dX8_takeNumber_20 : decode cX8_takeNumber 20 = .ok (.getfield 7, 3) := by decide +kernel
theorem dX8_takeNumber_23 : decode cX8_takeNumber 23 = .ok (.getfield 28, 3) := by decide +kernel
theorem dX8_takeNumber_26 : decode cX8_takeNumber 26 = .ok (.aload_n 0, 1) := by decide +kernel
theorem dX8_takeNumber_27 : decode cX8_takeNumber 27 = .ok (.getfield 13, 3) := by decide +kernel
theorem dX8_takeNumber_30 : decode cX8_takeNumber 30 = .ok (.baload, 1) := by decide +kernel
theorem dX8_takeNumber_31 : decode cX8_takeNumber 31 = .ok (.invokestatic 45, 3) := by decide +kernel
theorem dX8_takeNumber_34 : decode cX8_takeNumber 34 = .ok (.ifCond .eq 43, 3) := by decide +kernel
theorem dX8_takeNumber_37 : decode cX8_takeNumber 37 = .ok (.aload_n 0, 1) := by decide +kernel
theorem dX8_takeNumber_38 : decode cX8_takeNumber 38 = .ok (.aload_n 0, 1) := by decide +kernel
theorem dX8_takeNumber_39 : decode cX8_takeNumber 39 = .ok (.getfield 60, 3) := by decide +kernel
theorem dX8_takeNumber_42 : decode cX8_takeNumber 42 = .ok (.bipush 10, 2) := by decide +kernel
theorem dX8_takeNumber_44 : decode cX8_takeNumber 44 = .ok (.imul, 1) := by decide +kernel
theorem dX8_takeNumber_45 : decode cX8_takeNumber 45 = .ok (.aload_n 0, 1) := by decide +kernel
theorem dX8_takeNumber_46 : decode cX8_takeNumber 46 = .ok (.getfield 7, 3) := by decide +kernel
theorem dX8_takeNumber_49 : decode cX8_takeNumber 49 = .ok (.getfield 28, 3) := by decide +kernel
theorem dX8_takeNumber_52 : decode cX8_takeNumber 52 = .ok (.aload_n 0, 1) := by decide +kernel
theorem dX8_takeNumber_53 : decode cX8_takeNumber 53 = .ok (.getfield 13, 3) := by decide +kernel
theorem dX8_takeNumber_56 : decode cX8_takeNumber 56 = .ok (.baload, 1) := by decide +kernel
theorem dX8_takeNumber_57 : decode cX8_takeNumber 57 = .ok (.bipush 48, 2) := by decide +kernel
theorem dX8_takeNumber_59 : decode cX8_takeNumber 59 = .ok (.isub, 1) := by decide +kernel
theorem dX8_takeNumber_60 : decode cX8_takeNumber 60 = .ok (.iadd, 1) := by decide +kernel
theorem dX8_takeNumber_61 : decode cX8_takeNumber 61 = .ok (.putfield 60, 3) := by decide +kernel
theorem dX8_takeNumber_64 : decode cX8_takeNumber 64 = .ok (.aload_n 0, 1) := by decide +kernel
theorem dX8_takeNumber_65 : decode cX8_takeNumber 65 = .ok (.dup, 1) := by decide +kernel
theorem dX8_takeNumber_66 : decode cX8_takeNumber 66 = .ok (.getfield 13, 3) := by decide +kernel
theorem dX8_takeNumber_69 : decode cX8_takeNumber 69 = .ok (.iconst 1, 1) := by decide +kernel
theorem dX8_takeNumber_70 : decode cX8_takeNumber 70 = .ok (.iadd, 1) := by decide +kernel
theorem dX8_takeNumber_71 : decode cX8_takeNumber 71 = .ok (.putfield 13, 3) := by decide +kernel
theorem dX8_takeNumber_74 : decode cX8_takeNumber 74 = .ok (.goto (-69), 3) := by decide +kernel
theorem dX8_takeNumber_77 : decode cX8_takeNumber 77 = .ok (.aload_n 0, 1) := by decide +kernel
theorem dX8_takeNumber_78 : decode cX8_takeNumber 78 = .ok (.aload_n 0, 1) := by decide +kernel
theorem dX8_takeNumber_79 : decode cX8_takeNumber 79 = .ok (.getfield 13, 3) := by decide +kernel
theorem dX8_takeNumber_82 : decode cX8_takeNumber 82 = .ok (.aload_n 0, 1) := by decide +kernel
theorem dX8_takeNumber_83 : decode cX8_takeNumber 83 = .ok (.getfield 20, 3) := by decide +kernel
theorem dX8_takeNumber_86 : decode cX8_takeNumber 86 = .ok (.isub, 1) := by decide +kernel
theorem dX8_takeNumber_87 : decode cX8_takeNumber 87 = .ok (.iconst 3, 1) := by decide +kernel
theorem dX8_takeNumber_88 : decode cX8_takeNumber 88 = .ok (.if_icmp .gt 7, 3) := by decide +kernel
theorem dX8_takeNumber_91 : decode cX8_takeNumber 91 = .ok (.iconst 2, 1) := by decide +kernel
theorem dX8_takeNumber_92 : decode cX8_takeNumber 92 = .ok (.goto 4, 3) := by decide +kernel
theorem dX8_takeNumber_95 : decode cX8_takeNumber 95 = .ok (.iconst 4, 1) := by decide +kernel
theorem dX8_takeNumber_96 : decode cX8_takeNumber 96 = .ok (.putfield 36, 3) := by decide +kernel
theorem dX8_takeNumber_99 : decode cX8_takeNumber 99 = .ok (.return_, 1) := by decide +kernel
theorem dX8_isBlank_0 : decode cX8_isBlank 0 = .ok (.iload_n 0, 1) := by decide +kernel
theorem dX8_isBlank_1 : decode cX8_isBlank 1 = .ok (.bipush 32, 2) := by decide +kernel
theorem dX8_isBlank_3 : decode cX8_isBlank 3 = .ok (.if_icmp .eq 9, 3) := by decide +kernel
theorem dX8_isBlank_6 : decode cX8_isBlank 6 = .ok (.iload_n 0, 1) := by decide +kernel
theorem dX8_isBlank_7 : decode cX8_isBlank 7 = .ok (.bipush 10, 2) := by decide +kernel
theorem dX8_isBlank_9 : decode cX8_isBlank 9 = .ok (.if_icmp .ne 7, 3) := by decide +kernel
theorem dX8_isBlank_12 : decode cX8_isBlank 12 = .ok (.iconst 1, 1) := by decide +kernel
theorem dX8_isBlank_13 : decode cX8_isBlank 13 = .ok (.goto 4, 3) := by decide +kernel
theorem dX8_isBlank_16 : decode cX8_isBlank 16 = .ok (.iconst 0, 1) := by decide +kernel
theorem dX8_isBlank_17 : decode cX8_isBlank 17 = .ok (.ireturn, 1) := by decide +kernel
theorem dX8_isLetter_0 : decode cX8_isLetter 0 = .ok (.iload_n 0, 1) := by decide +kernel
theorem dX8_isLetter_1 : decode cX8_isLetter 1 = .ok (.bipush 97, 2) := by decide +kernel
theorem dX8_isLetter_3 : decode cX8_isLetter 3 = .ok (.if_icmp .lt 13, 3) := by decide +kernel
theorem dX8_isLetter_6 : decode cX8_isLetter 6 = .ok (.iload_n 0, 1) := by decide +kernel
theorem dX8_isLetter_7 : decode cX8_isLetter 7 = .ok (.bipush 122, 2) := by decide +kernel
theorem dX8_isLetter_9 : decode cX8_isLetter 9 = .ok (.if_icmp .gt 7, 3) := by decide +kernel
theorem dX8_isLetter_12 : decode cX8_isLetter 12 = .ok (.iconst 1, 1) := by decide +kernel
theorem dX8_isLetter_13 : decode cX8_isLetter 13 = .ok (.goto 4, 3) := by decide +kernel
theorem dX8_isLetter_16 : decode cX8_isLetter 16 = .ok (.iconst 0, 1) := by decide +kernel
theorem dX8_isLetter_17 : decode cX8_isLetter 17 = .ok (.ireturn, 1) := by decide +kernel
theorem dX8_isFigure_0 : decode cX8_isFigure 0 = .ok (.iload_n 0, 1) := by decide +kernel
theorem dX8_isFigure_1 : decode cX8_isFigure 1 = .ok (.bipush 48, 2) := by decide +kernel
theorem dX8_isFigure_3 : decode cX8_isFigure 3 = .ok (.if_icmp .lt 13, 3) := by decide +kernel
theorem dX8_isFigure_6 : decode cX8_isFigure 6 = .ok (.iload_n 0, 1) := by decide +kernel
theorem dX8_isFigure_7 : decode cX8_isFigure 7 = .ok (.bipush 57, 2) := by decide +kernel
theorem dX8_isFigure_9 : decode cX8_isFigure 9 = .ok (.if_icmp .gt 7, 3) := by decide +kernel
theorem dX8_isFigure_12 : decode cX8_isFigure 12 = .ok (.iconst 1, 1) := by decide +kernel
theorem dX8_isFigure_13 : decode cX8_isFigure 13 = .ok (.goto 4, 3) := by decide +kernel
theorem dX8_isFigure_16 : decode cX8_isFigure 16 = .ok (.iconst 0, 1) := by decide +kernel
theorem dX8_isFigure_17 : decode cX8_isFigure 17 = .ok (.ireturn, 1) := by decide +kernel
theorem dX9_init_0 : decode cX9_init 0 = .ok (.aload_n 0, 1) := by decide +kernel
theorem dX9_init_1 : decode cX9_init 1 = .ok (.invokespecial 3, 3) := by decide +kernel
theorem dX9_init_4 : decode cX9_init 4 = .ok (.aload_n 0, 1) := by decide +kernel
theorem dX9_init_5 : decode cX9_init 5 = .ok (.bipush 8, 2) := by decide +kernel
theorem dX9_init_7 : decode cX9_init 7 = .ok (.newarray .int, 2) := by decide +kernel
theorem dX9_init_9 : decode cX9_init 9 = .ok (.putfield 9, 3) := by decide +kernel
theorem dX9_init_12 : decode cX9_init 12 = .ok (.aload_n 0, 1) := by decide +kernel
theorem dX9_init_13 : decode cX9_init 13 = .ok (.iconst 4, 1) := by decide +kernel
theorem dX9_init_14 : decode cX9_init 14 = .ok (.newarray .int, 2) := by decide +kernel
theorem dX9_init_16 : decode cX9_init 16 = .ok (.putfield 15, 3) := by decide +kernel
theorem dX9_init_19 : decode cX9_init 19 = .ok (.aload_n 0, 1) := by decide +kernel
theorem dX9_init_20 : decode cX9_init 20 = .ok (.iconst 4, 1) := by decide +kernel
theorem dX9_init_21 : decode cX9_init 21 = .ok (.newarray .int, 2) := by decide +kernel
theorem dX9_init_23 : decode cX9_init 23 = .ok (.putfield 18, 3) := by decide +kernel
theorem dX9_init_26 : decode cX9_init 26 = .ok (.return_, 1) := by decide +kernel
theorem dX9_clear_0 : decode cX9_clear 0 = .ok (.aload_n 0, 1) := by decide +kernel
theorem dX9_clear_1 : decode cX9_clear 1 = .ok (.iconst 0, 1) := by decide +kernel
theorem dX9_clear_2 : decode cX9_clear 2 = .ok (.putfield 21, 3) := by decide +kernel
theorem dX9_clear_5 : decode cX9_clear 5 = .ok (.aload_n 0, 1) := by decide +kernel
theorem dX9_clear_6 : decode cX9_clear 6 = .ok (.iconst 0, 1) := by decide +kernel
theorem dX9_clear_7 : decode cX9_clear 7 = .ok (.putfield 25, 3) := by decide +kernel
theorem dX9_clear_10 : decode cX9_clear 10 = .ok (.aload_n 0, 1) := by decide +kernel
theorem dX9_clear_11 : decode cX9_clear 11 = .ok (.iconst 0, 1) := by decide +kernel
theorem dX9_clear_12 : decode cX9_clear 12 = .ok (.putfield 28, 3) := by decide +kernel
theorem dX9_clear_15 : decode cX9_clear 15 = .ok (.aload_n 0, 1) := by decide +kernel
theorem dX9_clear_16 : decode cX9_clear 16 = .ok (.iconst 0, 1) := by decide +kernel
theorem dX9_clear_17 : decode cX9_clear 17 = .ok (.putfield 31, 3) := by decide +kernel
theorem dX9_clear_20 : decode cX9_clear 20 = .ok (.iconst 0, 1) := by decide +kernel
theorem dX9_clear_21 : decode cX9_clear 21 = .ok (.istore_n 1, 1) := by decide +kernel
theorem dX9_clear_22 : decode cX9_clear 22 = .ok (.iload_n 1, 1) := by decide +kernel
theorem dX9_clear_23 : decode cX9_clear 23 = .ok (.bipush 8, 2) := by decide +kernel
theorem dX9_clear_25 : decode cX9_clear 25 = .ok (.if_icmp .ge 16, 3) := by decide +kernel
theorem dX9_clear_28 : decode cX9_clear 28 = .ok (.aload_n 0, 1) := by decide +kernel
theorem dX9_clear_29 : decode cX9_clear 29 = .ok (.getfield 9, 3) := by decide +kernel
theorem dX9_clear_32 : decode cX9_clear 32 = .ok (.iload_n 1, 1) := by decide +kernel
theorem dX9_clear_33 : decode cX9_clear 33 = .ok (.iconst 0, 1) := by decide +kernel
theorem dX9_clear_34 : decode cX9_clear 34 = .ok (.iastore, 1) := by decide +kernel
theorem dX9_clear_35 : decode cX9_clear 35 = .ok (.iinc 1 1, 3) := by decide +kernel
theorem dX9_clear_38 : decode cX9_clear 38 = .ok (.goto (-16), 3) := by decide +kernel
theorem dX9_clear_41 : decode cX9_clear 41 = .ok (.return_, 1) := by decide +kernel
theorem dX9_become_0 : decode cX9_become 0 = .ok (.aload_n 0, 1) := by decide +kernel
theorem dX9_become_1 : decode cX9_become 1 = .ok (.aload_n 1, 1) := by decide +kernel
theorem dX9_become_2 : decode cX9_become 2 = .ok (.getfield 21, 3) := by decide +kernel
theorem dX9_become_5 : decode cX9_become 5 = .ok (.putfield 21, 3) := by decide +kernel
theorem dX9_become_8 : decode cX9_become 8 = .ok (.aload_n 0, 1) := by decide +kernel
theorem dX9_become_9 : decode cX9_become 9 = .ok (.aload_n 1, 1) := by decide +kernel
theorem dX9_become_10 : decode cX9_become 10 = .ok (.getfield 25, 3) := by decide +kernel
theorem dX9_become_13 : decode cX9_become 13 = .ok (.putfield 25, 3) := by decide +kernel
theorem dX9_become_16 : decode cX9_become 16 = .ok (.aload_n 0, 1) := by decide +kernel
theorem dX9_become_17 : decode cX9_become 17 = .ok (.aload_n 1, 1) := by decide +kernel
theorem dX9_become_18 : decode cX9_become 18 = .ok (.getfield 28, 3) := by decide +kernel
theorem dX9_become_21 : decode cX9_become 21 = .ok (.putfield 28, 3) := by decide +kernel
theorem dX9_become_24 : decode cX9_become 24 = .ok (.aload_n 0, 1) := by decide +kernel
theorem dX9_become_25 : decode cX9_become 25 = .ok (.aload_n 1, 1) := by decide +kernel
theorem dX9_become_26 : decode cX9_become 26 = .ok (.getfield 31, 3) := by decide +kernel
theorem dX9_become_29 : decode cX9_become 29 = .ok (.putfield 31, 3) := by decide +kernel
theorem dX9_become_32 : decode cX9_become 32 = .ok (.aload_n 1, 1) := by decide +kernel
theorem dX9_become_33 : decode cX9_become 33 = .ok (.getfield 9, 3) := by decide +kernel
theorem dX9_become_36 : decode cX9_become 36 = .ok (.iconst 0, 1) := by decide +kernel
theorem dX9_become_37 : decode cX9_become 37 = .ok (.aload_n 0, 1) := by decide +kernel
theorem dX9_become_38 : decode cX9_become 38 = .ok (.getfield 9, 3) := by decide +kernel
theorem dX9_become_41 : decode cX9_become 41 = .ok (.iconst 0, 1) := by decide +kernel
theorem dX9_become_42 : decode cX9_become 42 = .ok (.bipush 8, 2) := by decide +kernel
theorem dX9_become_44 : decode cX9_become 44 = .ok (.invokestatic 34, 3) := by decide +kernel
theorem dX9_become_47 : decode cX9_become 47 = .ok (.aload_n 1, 1) := by decide +kernel
theorem dX9_become_48 : decode cX9_become 48 = .ok (.getfield 15, 3) := by decide +kernel
theorem dX9_become_51 : decode cX9_become 51 = .ok (.iconst 0, 1) := by decide +kernel
theorem dX9_become_52 : decode cX9_become 52 = .ok (.aload_n 0, 1) := by decide +kernel
theorem dX9_become_53 : decode cX9_become 53 = .ok (.getfield 15, 3) := by decide +kernel
theorem dX9_become_56 : decode cX9_become 56 = .ok (.iconst 0, 1) := by decide +kernel
theorem dX9_become_57 : decode cX9_become 57 = .ok (.iconst 4, 1) := by decide +kernel
theorem dX9_become_58 : decode cX9_become 58 = .ok (.invokestatic 34, 3) := by decide +kernel
theorem dX9_become_61 : decode cX9_become 61 = .ok (.aload_n 1, 1) := by decide +kernel
theorem dX9_become_62 : decode cX9_become 62 = .ok (.getfield 18, 3) := by decide +kernel
theorem dX9_become_65 : decode cX9_become 65 = .ok (.iconst 0, 1) := by decide +kernel
theorem dX9_become_66 : decode cX9_become 66 = .ok (.aload_n 0, 1) := by decide +kernel
theorem dX9_become_67 : decode cX9_become 67 = .ok (.getfield 18, 3) := by decide +kernel
theorem dX9_become_70 : decode cX9_become 70 = .ok (.iconst 0, 1) := by decide +kernel
theorem dX9_become_71 : decode cX9_become 71 = .ok (.iconst 4, 1) := by decide +kernel
theorem dX9_become_72 : decode cX9_become 72 = .ok (.invokestatic 34, 3) := by decide +kernel
theorem dX9_become_75 : decode cX9_become 75 = .ok (.return_, 1) := by decide +kernel
theorem dX9_measure_0 : decode cX9_measure 0 = .ok (.aload_n 0, 1) := by decide +kernel
theorem dX9_measure_1 : decode cX9_measure 1 = .ok (.iload_n 1, 1) := by decide +kernel
theorem dX9_measure_2 : decode cX9_measure 2 = .ok (.putfield 21, 3) := by decide +kernel
theorem dX9_measure_5 : decode cX9_measure 5 = .ok (.aload_n 0, 1) := by decide +kernel
theorem dX9_measure_6 : decode cX9_measure 6 = .ok (.iload_n 2, 1) := by decide +kernel
theorem dX9_measure_7 : decode cX9_measure 7 = .ok (.putfield 25, 3) := by decide +kernel
theorem dX9_measure_10 : decode cX9_measure 10 = .ok (.return_, 1) := by decide +kernel
theorem dX9_addWind_0 : decode cX9_addWind 0 = .ok (.aload_n 0, 1) := by decide +kernel
theorem dX9_addWind_1 : decode cX9_addWind 1 = .ok (.getfield 28, 3) := by decide +kernel
theorem dX9_addWind_4 : decode cX9_addWind 4 = .ok (.iconst 4, 1) := by decide +kernel
theorem dX9_addWind_5 : decode cX9_addWind 5 = .ok (.if_icmp .ge 43, 3) := by decide +kernel
theorem dX9_addWind_8 : decode cX9_addWind 8 = .ok (.aload_n 0, 1) := by decide +kernel
theorem dX9_addWind_9 : decode cX9_addWind 9 = .ok (.getfield 15, 3) := by decide +kernel
theorem dX9_addWind_12 : decode cX9_addWind 12 = .ok (.aload_n 0, 1) := by decide +kernel
theorem dX9_addWind_13 : decode cX9_addWind 13 = .ok (.getfield 28, 3) := by decide +kernel
theorem dX9_addWind_16 : decode cX9_addWind 16 = .ok (.iload_n 1, 1) := by decide +kernel
theorem dX9_addWind_17 : decode cX9_addWind 17 = .ok (.iastore, 1) := by decide +kernel
theorem dX9_addWind_18 : decode cX9_addWind 18 = .ok (.aload_n 0, 1) := by decide +kernel
theorem dX9_addWind_19 : decode cX9_addWind 19 = .ok (.getfield 18, 3) := by decide +kernel
theorem dX9_addWind_22 : decode cX9_addWind 22 = .ok (.aload_n 0, 1) := by decide +kernel
theorem dX9_addWind_23 : decode cX9_addWind 23 = .ok (.getfield 28, 3) := by decide +kernel
theorem dX9_addWind_26 : decode cX9_addWind 26 = .ok (.iload_n 2, 1) := by decide +kernel
theorem dX9_addWind_27 : decode cX9_addWind 27 = .ok (.iastore, 1) := by decide +kernel
theorem dX9_addWind_28 : decode cX9_addWind 28 = .ok (.aload_n 0, 1) := by decide +kernel
theorem dX9_addWind_29 : decode cX9_addWind 29 = .ok (.dup, 1) := by decide +kernel
theorem dX9_addWind_30 : decode cX9_addWind 30 = .ok (.getfield 28, 3) := by decide +kernel
theorem dX9_addWind_33 : decode cX9_addWind 33 = .ok (.iconst 1, 1) := by decide +kernel
theorem dX9_addWind_34 : decode cX9_addWind 34 = .ok (.iadd, 1) := by decide +kernel
theorem dX9_addWind_35 : decode cX9_addWind 35 = .ok (.putfield 28, 3) := by decide +kernel
theorem dX9_addWind_38 : decode cX9_addWind 38 = .ok (.aload_n 0, 1) := by decide +kernel
theorem dX9_addWind_39 : decode cX9_addWind 39 = .ok (.dup, 1) := by decide +kernel
theorem dX9_addWind_40 : decode cX9_addWind 40 = .ok (.getfield 31, 3) := by decide +kernel
theorem dX9_addWind_43 : decode cX9_addWind 43 = .ok (.iload_n 2, 1) := by decide +kernel
theorem dX9_addWind_44 : decode cX9_addWind 44 = .ok (.iadd, 1) := by decide +kernel
theorem dX9_addWind_45 : decode cX9_addWind 45 = .ok (.putfield 31, 3) := by decide +kernel
theorem dX9_addWind_48 : decode cX9_addWind 48 = .ok (.return_, 1) := by decide +kernel
theorem dX9_addLand_0 : decode cX9_addLand 0 = .ok (.aload_n 0, 1) := by decide +kernel
theorem dX9_addLand_1 : decode cX9_addLand 1 = .ok (.iload_n 1, 1) := by decide +kernel
theorem dX9_addLand_2 : decode cX9_addLand 2 = .ok (.iload_n 2, 1) := by decide +kernel
theorem dX9_addLand_3 : decode cX9_addLand 3 = .ok (.invokevirtual 40, 3) := by decide +kernel
theorem dX9_addLand_6 : decode cX9_addLand 6 = .ok (.ifCond .eq 15, 3) := by decide +kernel
theorem dX9_addLand_9 : decode cX9_addLand 9 = .ok (.aload_n 0, 1) := by decide +kernel
theorem dX9_addLand_10 : decode cX9_addLand 10 = .ok (.getfield 9, 3) := by decide +kernel
theorem dX9_addLand_13 : decode cX9_addLand 13 = .ok (.iload_n 2, 1) := by decide +kernel
theorem dX9_addLand_14 : decode cX9_addLand 14 = .ok (.dup2, 1) := by decide +kernel
theorem dX9_addLand_15 : decode cX9_addLand 15 = .ok (.iaload, 1) := by decide +kernel
theorem dX9_addLand_16 : decode cX9_addLand 16 = .ok (.iconst 1, 1) := by decide +kernel
theorem dX9_addLand_17 : decode cX9_addLand 17 = .ok (.iload_n 1, 1) := by decide +kernel
theorem dX9_addLand_18 : decode cX9_addLand 18 = .ok (.ishl, 1) := by decide +kernel
theorem dX9_addLand_19 : decode cX9_addLand 19 = .ok (.ior, 1) := by decide +kernel
theorem dX9_addLand_20 : decode cX9_addLand 20 = .ok (.iastore, 1) := by decide +kernel
theorem dX9_addLand_21 : decode cX9_addLand 21 = .ok (.return_, 1) := by decide +kernel
theorem dX9_isInside_0 : decode cX9_isInside 0 = .ok (.iload_n 1, 1) := by decide +kernel
theorem dX9_isInside_1 : decode cX9_isInside 1 = .ok (.iconst 0, 1) := by decide +kernel
theorem dX9_isInside_2 : decode cX9_isInside 2 = .ok (.aload_n 0, 1) := by decide +kernel
theorem dX9_isInside_3 : decode cX9_isInside 3 = .ok (.getfield 21, 3) := by decide +kernel
theorem dX9_isInside_6 : decode cX9_isInside 6 = .ok (.iconst 1, 1) := by decide +kernel
theorem dX9_isInside_7 : decode cX9_isInside 7 = .ok (.isub, 1) := by decide +kernel
theorem dX9_isInside_8 : decode cX9_isInside 8 = .ok (.invokestatic 44, 3) := by decide +kernel
theorem dX9_isInside_11 : decode cX9_isInside 11 = .ok (.ifCond .eq 21, 3) := by decide +kernel
theorem dX9_isInside_14 : decode cX9_isInside 14 = .ok (.iload_n 2, 1) := by decide +kernel
theorem dX9_isInside_15 : decode cX9_isInside 15 = .ok (.iconst 0, 1) := by decide +kernel
theorem dX9_isInside_16 : decode cX9_isInside 16 = .ok (.aload_n 0, 1) := by decide +kernel
theorem dX9_isInside_17 : decode cX9_isInside 17 = .ok (.getfield 25, 3) := by decide +kernel
theorem dX9_isInside_20 : decode cX9_isInside 20 = .ok (.iconst 1, 1) := by decide +kernel
theorem dX9_isInside_21 : decode cX9_isInside 21 = .ok (.isub, 1) := by decide +kernel
theorem dX9_isInside_22 : decode cX9_isInside 22 = .ok (.invokestatic 44, 3) := by decide +kernel
theorem dX9_isInside_25 : decode cX9_isInside 25 = .ok (.ifCond .eq 7, 3) := by decide +kernel
theorem dX9_isInside_28 : decode cX9_isInside 28 = .ok (.iconst 1, 1) := by decide +kernel
theorem dX9_isInside_29 : decode cX9_isInside 29 = .ok (.goto 4, 3) := by decide +kernel
theorem dX9_isInside_32 : decode cX9_isInside 32 = .ok (.iconst 0, 1) := by decide +kernel
theorem dX9_isInside_33 : decode cX9_isInside 33 = .ok (.ireturn, 1) := by decide +kernel
theorem dX9_isCell_0 : decode cX9_isCell 0 = .ok (.iload_n 1, 1) := by decide +kernel
theorem dX9_isCell_1 : decode cX9_isCell 1 = .ok (.iconst 0, 1) := by decide +kernel
theorem dX9_isCell_2 : decode cX9_isCell 2 = .ok (.bipush 127, 2) := by decide +kernel
theorem dX9_isCell_4 : decode cX9_isCell 4 = .ok (.invokestatic 44, 3) := by decide +kernel
theorem dX9_isCell_7 : decode cX9_isCell 7 = .ok (.ifCond .eq 22, 3) := by decide +kernel
theorem dX9_isCell_10 : decode cX9_isCell 10 = .ok (.aload_n 0, 1) := by decide +kernel
theorem dX9_isCell_11 : decode cX9_isCell 11 = .ok (.iload_n 1, 1) := by decide +kernel
theorem dX9_isCell_12 : decode cX9_isCell 12 = .ok (.bipush 16, 2) := by decide +kernel
theorem dX9_isCell_14 : decode cX9_isCell 14 = .ok (.irem, 1) := by decide +kernel
theorem dX9_isCell_15 : decode cX9_isCell 15 = .ok (.iload_n 1, 1) := by decide +kernel
theorem dX9_isCell_16 : decode cX9_isCell 16 = .ok (.bipush 16, 2) := by decide +kernel
theorem dX9_isCell_18 : decode cX9_isCell 18 = .ok (.idiv, 1) := by decide +kernel
theorem dX9_isCell_19 : decode cX9_isCell 19 = .ok (.invokevirtual 40, 3) := by decide +kernel
theorem dX9_isCell_22 : decode cX9_isCell 22 = .ok (.ifCond .eq 7, 3) := by decide +kernel
theorem dX9_isCell_25 : decode cX9_isCell 25 = .ok (.iconst 1, 1) := by decide +kernel
theorem dX9_isCell_26 : decode cX9_isCell 26 = .ok (.goto 4, 3) := by decide +kernel
theorem dX9_isCell_29 : decode cX9_isCell 29 = .ok (.iconst 0, 1) := by decide +kernel
theorem dX9_isCell_30 : decode cX9_isCell 30 = .ok (.ireturn, 1) := by decide +kernel
theorem dX9_isLand_0 : decode cX9_isLand 0 = .ok (.aload_n 0, 1) := by decide +kernel
theorem dX9_isLand_1 : decode cX9_isLand 1 = .ok (.iload_n 1, 1) := by decide +kernel
theorem dX9_isLand_2 : decode cX9_isLand 2 = .ok (.invokevirtual 48, 3) := by decide +kernel
theorem dX9_isLand_5 : decode cX9_isLand 5 = .ok (.ifCond .eq 26, 3) := by decide +kernel
theorem dX9_isLand_8 : decode cX9_isLand 8 = .ok (.iload_n 1, 1) := by decide +kernel
theorem dX9_isLand_9 : decode cX9_isLand 9 = .ok (.bipush 16, 2) := by decide +kernel
theorem dX9_isLand_11 : decode cX9_isLand 11 = .ok (.irem, 1) := by decide +kernel
theorem dX9_isLand_12 : decode cX9_isLand 12 = .ok (.aload_n 0, 1) := by decide +kernel
theorem dX9_isLand_13 : decode cX9_isLand 13 = .ok (.getfield 9, 3) := by decide +kernel
theorem dX9_isLand_16 : decode cX9_isLand 16 = .ok (.iload_n 1, 1) := by decide +kernel
theorem dX9_isLand_17 : decode cX9_isLand 17 = .ok (.bipush 16, 2) := by decide +kernel
theorem dX9_isLand_19 : decode cX9_isLand 19 = .ok (.idiv, 1) := by decide +kernel
theorem dX9_isLand_20 : decode cX9_isLand 20 = .ok (.iaload, 1) := by decide +kernel
theorem dX9_isLand_21 : decode cX9_isLand 21 = .ok (.invokestatic 52, 3) := by decide +kernel
theorem dX9_isLand_24 : decode cX9_isLand 24 = .ok (.ifCond .eq 7, 3) := by decide +kernel
theorem dX9_isLand_27 : decode cX9_isLand 27 = .ok (.iconst 1, 1) := by decide +kernel
theorem dX9_isLand_28 : decode cX9_isLand 28 = .ok (.goto 4, 3) := by decide +kernel
theorem dX9_isLand_31 : decode cX9_isLand 31 = .ok (.iconst 0, 1) := by decide +kernel
theorem dX9_isLand_32 : decode cX9_isLand 32 = .ok (.ireturn, 1) := by decide +kernel
theorem dX9_isOpen_0 : decode cX9_isOpen 0 = .ok (.aload_n 0, 1) := by decide +kernel
theorem dX9_isOpen_1 : decode cX9_isOpen 1 = .ok (.iload_n 1, 1) := by decide +kernel
theorem dX9_isOpen_2 : decode cX9_isOpen 2 = .ok (.invokevirtual 48, 3) := by decide +kernel
theorem dX9_isOpen_5 : decode cX9_isOpen 5 = .ok (.ifCond .eq 15, 3) := by decide +kernel
theorem dX9_isOpen_8 : decode cX9_isOpen 8 = .ok (.aload_n 0, 1) := by decide +kernel
theorem dX9_isOpen_9 : decode cX9_isOpen 9 = .ok (.iload_n 1, 1) := by decide +kernel
theorem dX9_isOpen_10 : decode cX9_isOpen 10 = .ok (.invokevirtual 55, 3) := by decide +kernel
theorem dX9_isOpen_13 : decode cX9_isOpen 13 = .ok (.ifCond .ne 7, 3) := by decide +kernel
theorem dX9_isOpen_16 : decode cX9_isOpen 16 = .ok (.iconst 1, 1) := by decide +kernel
theorem dX9_isOpen_17 : decode cX9_isOpen 17 = .ok (.goto 4, 3) := by decide +kernel
theorem dX9_isOpen_20 : decode cX9_isOpen 20 = .ok (.iconst 0, 1) := by decide +kernel
theorem dX9_isOpen_21 : decode cX9_isOpen 21 = .ok (.ireturn, 1) := by decide +kernel
theorem dX9_cellsOfLand_0 : decode cX9_cellsOfLand 0 = .ok (.iconst 0, 1) := by decide +kernel
theorem dX9_cellsOfLand_1 : decode cX9_cellsOfLand 1 = .ok (.istore_n 1, 1) := by decide +kernel
theorem dX9_cellsOfLand_2 : decode cX9_cellsOfLand 2 = .ok (.iconst 0, 1) := by decide +kernel
theorem dX9_cellsOfLand_3 : decode cX9_cellsOfLand 3 = .ok (.istore_n 2, 1) := by decide +kernel
theorem dX9_cellsOfLand_4 : decode cX9_cellsOfLand 4 = .ok (.iload_n 2, 1) := by decide +kernel
theorem dX9_cellsOfLand_5 : decode cX9_cellsOfLand 5 = .ok (.bipush 8, 2) := by decide +kernel
theorem dX9_cellsOfLand_7 : decode cX9_cellsOfLand 7 = .ok (.if_icmp .ge 21, 3) := by decide +kernel
theorem dX9_cellsOfLand_10 : decode cX9_cellsOfLand 10 = .ok (.iload_n 1, 1) := by decide +kernel
theorem dX9_cellsOfLand_11 : decode cX9_cellsOfLand 11 = .ok (.aload_n 0, 1) := by decide +kernel
theorem dX9_cellsOfLand_12 : decode cX9_cellsOfLand 12 = .ok (.getfield 9, 3) := by decide +kernel
theorem dX9_cellsOfLand_15 : decode cX9_cellsOfLand 15 = .ok (.iload_n 2, 1) := by decide +kernel
theorem dX9_cellsOfLand_16 : decode cX9_cellsOfLand 16 = .ok (.iaload, 1) := by decide +kernel
theorem dX9_cellsOfLand_17 : decode cX9_cellsOfLand 17 = .ok (.invokestatic 58, 3) := by decide +kernel
theorem dX9_cellsOfLand_20 : decode cX9_cellsOfLand 20 = .ok (.iadd, 1) := by decide +kernel
theorem dX9_cellsOfLand_21 : decode cX9_cellsOfLand 21 = .ok (.istore_n 1, 1) := by decide +kernel
theorem dX9_cellsOfLand_22 : decode cX9_cellsOfLand 22 = .ok (.iinc 2 1, 3) := by decide +kernel
theorem dX9_cellsOfLand_25 : decode cX9_cellsOfLand 25 = .ok (.goto (-21), 3) := by decide +kernel
theorem dX9_cellsOfLand_28 : decode cX9_cellsOfLand 28 = .ok (.iload_n 1, 1) := by decide +kernel
theorem dX9_cellsOfLand_29 : decode cX9_cellsOfLand 29 = .ok (.ireturn, 1) := by decide +kernel
theorem dX9_drawWind_0 : decode cX9_drawWind 0 = .ok (.aload_n 0, 1) := by decide +kernel
theorem dX9_drawWind_1 : decode cX9_drawWind 1 = .ok (.getfield 31, 3) := by decide +kernel
theorem dX9_drawWind_4 : decode cX9_drawWind 4 = .ok (.ifCond .gt 5, 3) := by decide +kernel
theorem dX9_drawWind_7 : decode cX9_drawWind 7 = .ok (.iconst 0, 1) := by decide +kernel
theorem dX9_drawWind_8 : decode cX9_drawWind 8 = .ok (.ireturn, 1) := by decide +kernel
theorem dX9_drawWind_9 : decode cX9_drawWind 9 = .ok (.lload_n 1, 1) := by decide +kernel
theorem dX9_drawWind_10 : decode cX9_drawWind 10 = .ok (.aload_n 0, 1) := by decide +kernel
theorem dX9_drawWind_11 : decode cX9_drawWind 11 = .ok (.getfield 31, 3) := by decide +kernel
theorem dX9_drawWind_14 : decode cX9_drawWind 14 = .ok (.i2l, 1) := by decide +kernel
theorem dX9_drawWind_15 : decode cX9_drawWind 15 = .ok (.lrem, 1) := by decide +kernel
theorem dX9_drawWind_16 : decode cX9_drawWind 16 = .ok (.lstore_n 3, 1) := by decide +kernel
theorem dX9_drawWind_17 : decode cX9_drawWind 17 = .ok (.iconst 0, 1) := by decide +kernel
theorem dX9_drawWind_18 : decode cX9_drawWind 18 = .ok (.istore 5, 2) := by decide +kernel
theorem dX9_drawWind_20 : decode cX9_drawWind 20 = .ok (.iconst 0, 1) := by decide +kernel
theorem dX9_drawWind_21 : decode cX9_drawWind 21 = .ok (.istore 6, 2) := by decide +kernel
theorem dX9_drawWind_23 : decode cX9_drawWind 23 = .ok (.iload 6, 2) := by decide +kernel
theorem dX9_drawWind_25 : decode cX9_drawWind 25 = .ok (.aload_n 0, 1) := by decide +kernel
theorem dX9_drawWind_26 : decode cX9_drawWind 26 = .ok (.getfield 28, 3) := by decide +kernel
theorem dX9_drawWind_29 : decode cX9_drawWind 29 = .ok (.if_icmp .ge 32, 3) := by decide +kernel
theorem dX9_drawWind_32 : decode cX9_drawWind 32 = .ok (.iload 5, 2) := by decide +kernel
theorem dX9_drawWind_34 : decode cX9_drawWind 34 = .ok (.aload_n 0, 1) := by decide +kernel
theorem dX9_drawWind_35 : decode cX9_drawWind 35 = .ok (.getfield 18, 3) := by decide +kernel
theorem dX9_drawWind_38 : decode cX9_drawWind 38 = .ok (.iload 6, 2) := by decide +kernel
theorem dX9_drawWind_40 : decode cX9_drawWind 40 = .ok (.iaload, 1) := by decide +kernel
theorem dX9_drawWind_41 : decode cX9_drawWind 41 = .ok (.iadd, 1) := by decide +kernel
theorem dX9_drawWind_42 : decode cX9_drawWind 42 = .ok (.istore 5, 2) := by decide +kernel
theorem dX9_drawWind_44 : decode cX9_drawWind 44 = .ok (.iload 5, 2) := by decide +kernel
theorem dX9_drawWind_46 : decode cX9_drawWind 46 = .ok (.i2l, 1) := by decide +kernel
theorem dX9_drawWind_47 : decode cX9_drawWind 47 = .ok (.lload_n 3, 1) := by decide +kernel
theorem dX9_drawWind_48 : decode cX9_drawWind 48 = .ok (.lcmp, 1) := by decide +kernel
theorem dX9_drawWind_49 : decode cX9_drawWind 49 = .ok (.ifCond .le 6, 3) := by decide +kernel
theorem dX9_drawWind_52 : decode cX9_drawWind 52 = .ok (.iload 6, 2) := by decide +kernel
theorem dX9_drawWind_54 : decode cX9_drawWind 54 = .ok (.ireturn, 1) := by decide +kernel
theorem dX9_drawWind_55 : decode cX9_drawWind 55 = .ok (.iinc 6 1, 3) := by decide +kernel
theorem dX9_drawWind_58 : decode cX9_drawWind 58 = .ok (.goto (-35), 3) := by decide +kernel
theorem dX9_drawWind_61 : decode cX9_drawWind 61 = .ok (.iconst 0, 1) := by decide +kernel
theorem dX9_drawWind_62 : decode cX9_drawWind 62 = .ok (.ireturn, 1) := by decide +kernel
theorem dX9_oddsOf_0 : decode cX9_oddsOf 0 = .ok (.iload_n 1, 1) := by decide +kernel
theorem dX9_oddsOf_1 : decode cX9_oddsOf 1 = .ok (.iconst 0, 1) := by decide +kernel
theorem dX9_oddsOf_2 : decode cX9_oddsOf 2 = .ok (.iconst 3, 1) := by decide +kernel
theorem dX9_oddsOf_3 : decode cX9_oddsOf 3 = .ok (.invokestatic 44, 3) := by decide +kernel
theorem dX9_oddsOf_6 : decode cX9_oddsOf 6 = .ok (.ifCond .eq 12, 3) := by decide +kernel
theorem dX9_oddsOf_9 : decode cX9_oddsOf 9 = .ok (.aload_n 0, 1) := by decide +kernel
theorem dX9_oddsOf_10 : decode cX9_oddsOf 10 = .ok (.getfield 18, 3) := by decide +kernel
theorem dX9_oddsOf_13 : decode cX9_oddsOf 13 = .ok (.iload_n 1, 1) := by decide +kernel
theorem dX9_oddsOf_14 : decode cX9_oddsOf 14 = .ok (.iaload, 1) := by decide +kernel
theorem dX9_oddsOf_15 : decode cX9_oddsOf 15 = .ok (.goto 4, 3) := by decide +kernel
theorem dX9_oddsOf_18 : decode cX9_oddsOf 18 = .ok (.iconst 0, 1) := by decide +kernel
theorem dX9_oddsOf_19 : decode cX9_oddsOf 19 = .ok (.ireturn, 1) := by decide +kernel
theorem dX9_cellBehind_0 : decode cX9_cellBehind 0 = .ok (.iload_n 2, 1) := by decide +kernel
theorem dX9_cellBehind_1 : decode cX9_cellBehind 1 = .ok (.iconst 0, 1) := by decide +kernel
theorem dX9_cellBehind_2 : decode cX9_cellBehind 2 = .ok (.iconst 3, 1) := by decide +kernel
theorem dX9_cellBehind_3 : decode cX9_cellBehind 3 = .ok (.invokestatic 44, 3) := by decide +kernel
theorem dX9_cellBehind_6 : decode cX9_cellBehind 6 = .ok (.ifCond .ne 5, 3) := by decide +kernel
theorem dX9_cellBehind_9 : decode cX9_cellBehind 9 = .ok (.iload_n 1, 1) := by decide +kernel
theorem dX9_cellBehind_10 : decode cX9_cellBehind 10 = .ok (.ireturn, 1) := by decide +kernel
theorem dX9_cellBehind_11 : decode cX9_cellBehind 11 = .ok (.aload_n 0, 1) := by decide +kernel
theorem dX9_cellBehind_12 : decode cX9_cellBehind 12 = .ok (.getfield 15, 3) := by decide +kernel
theorem dX9_cellBehind_15 : decode cX9_cellBehind 15 = .ok (.iload_n 2, 1) := by decide +kernel
theorem dX9_cellBehind_16 : decode cX9_cellBehind 16 = .ok (.iaload, 1) := by decide +kernel
theorem dX9_cellBehind_17 : decode cX9_cellBehind 17 = .ok (.iload_n 3, 1) := by decide +kernel
theorem dX9_cellBehind_18 : decode cX9_cellBehind 18 = .ok (.iadd, 1) := by decide +kernel
theorem dX9_cellBehind_19 : decode cX9_cellBehind 19 = .ok (.bipush 7, 2) := by decide +kernel
theorem dX9_cellBehind_21 : decode cX9_cellBehind 21 = .ok (.iand, 1) := by decide +kernel
theorem dX9_cellBehind_22 : decode cX9_cellBehind 22 = .ok (.istore 4, 2) := by decide +kernel
theorem dX9_cellBehind_24 : decode cX9_cellBehind 24 = .ok (.iload_n 1, 1) := by decide +kernel
theorem dX9_cellBehind_25 : decode cX9_cellBehind 25 = .ok (.bipush 16, 2) := by decide +kernel
theorem dX9_cellBehind_27 : decode cX9_cellBehind 27 = .ok (.irem, 1) := by decide +kernel
theorem dX9_cellBehind_28 : decode cX9_cellBehind 28 = .ok (.getstatic 64, 3) := by decide +kernel
theorem dX9_cellBehind_31 : decode cX9_cellBehind 31 = .ok (.iload 4, 2) := by decide +kernel
theorem dX9_cellBehind_33 : decode cX9_cellBehind 33 = .ok (.iaload, 1) := by decide +kernel
theorem dX9_cellBehind_34 : decode cX9_cellBehind 34 = .ok (.iadd, 1) := by decide +kernel
theorem dX9_cellBehind_35 : decode cX9_cellBehind 35 = .ok (.istore 5, 2) := by decide +kernel
theorem dX9_cellBehind_37 : decode cX9_cellBehind 37 = .ok (.iload_n 1, 1) := by decide +kernel
theorem dX9_cellBehind_38 : decode cX9_cellBehind 38 = .ok (.bipush 16, 2) := by decide +kernel
theorem dX9_cellBehind_40 : decode cX9_cellBehind 40 = .ok (.idiv, 1) := by decide +kernel
theorem dX9_cellBehind_41 : decode cX9_cellBehind 41 = .ok (.getstatic 67, 3) := by decide +kernel
theorem dX9_cellBehind_44 : decode cX9_cellBehind 44 = .ok (.iload 4, 2) := by decide +kernel
theorem dX9_cellBehind_46 : decode cX9_cellBehind 46 = .ok (.iaload, 1) := by decide +kernel
theorem dX9_cellBehind_47 : decode cX9_cellBehind 47 = .ok (.iadd, 1) := by decide +kernel
theorem dX9_cellBehind_48 : decode cX9_cellBehind 48 = .ok (.istore 6, 2) := by decide +kernel
theorem dX9_cellBehind_50 : decode cX9_cellBehind 50 = .ok (.aload_n 0, 1) := by decide +kernel
theorem dX9_cellBehind_51 : decode cX9_cellBehind 51 = .ok (.iload 5, 2) := by decide +kernel
theorem dX9_cellBehind_53 : decode cX9_cellBehind 53 = .ok (.iload 6, 2) := by decide +kernel
theorem dX9_cellBehind_55 : decode cX9_cellBehind 55 = .ok (.invokevirtual 40, 3) := by decide +kernel
theorem dX9_cellBehind_58 : decode cX9_cellBehind 58 = .ok (.ifCond .eq 14, 3) := by decide +kernel
theorem dX9_cellBehind_61 : decode cX9_cellBehind 61 = .ok (.iload 5, 2) := by decide +kernel
theorem dX9_cellBehind_63 : decode cX9_cellBehind 63 = .ok (.bipush 16, 2) := by decide +kernel
theorem dX9_cellBehind_65 : decode cX9_cellBehind 65 = .ok (.iload 6, 2) := by decide +kernel
theorem dX9_cellBehind_67 : decode cX9_cellBehind 67 = .ok (.imul, 1) := by decide +kernel
theorem dX9_cellBehind_68 : decode cX9_cellBehind 68 = .ok (.iadd, 1) := by decide +kernel
theorem dX9_cellBehind_69 : decode cX9_cellBehind 69 = .ok (.goto 4, 3) := by decide +kernel
theorem dX9_cellBehind_72 : decode cX9_cellBehind 72 = .ok (.iload_n 1, 1) := by decide +kernel
theorem dX9_cellBehind_73 : decode cX9_cellBehind 73 = .ok (.ireturn, 1) := by decide +kernel
theorem dX10_init_0 : decode cX10_init 0 = .ok (.aload_n 0, 1) := by decide +kernel
theorem dX10_init_1 : decode cX10_init 1 = .ok (.invokespecial 1, 3) := by decide +kernel
theorem dX10_init_4 : decode cX10_init 4 = .ok (.aload_n 0, 1) := by decide +kernel
theorem dX10_init_5 : decode cX10_init 5 = .ok (.new 7, 3) := by decide +kernel
theorem dX10_init_8 : decode cX10_init 8 = .ok (.dup, 1) := by decide +kernel
theorem dX10_init_9 : decode cX10_init 9 = .ok (.invokespecial 9, 3) := by decide +kernel
theorem dX10_init_12 : decode cX10_init 12 = .ok (.putfield 10, 3) := by decide +kernel
theorem dX10_init_15 : decode cX10_init 15 = .ok (.aload_n 0, 1) := by decide +kernel
theorem dX10_init_16 : decode cX10_init 16 = .ok (.new 16, 3) := by decide +kernel
theorem dX10_init_19 : decode cX10_init 19 = .ok (.dup, 1) := by decide +kernel
theorem dX10_init_20 : decode cX10_init 20 = .ok (.invokespecial 18, 3) := by decide +kernel
theorem dX10_init_23 : decode cX10_init 23 = .ok (.putfield 19, 3) := by decide +kernel
theorem dX10_init_26 : decode cX10_init 26 = .ok (.aload_n 0, 1) := by decide +kernel
theorem dX10_init_27 : decode cX10_init 27 = .ok (.new 23, 3) := by decide +kernel
theorem dX10_init_30 : decode cX10_init 30 = .ok (.dup, 1) := by decide +kernel
theorem dX10_init_31 : decode cX10_init 31 = .ok (.invokespecial 25, 3) := by decide +kernel
theorem dX10_init_34 : decode cX10_init 34 = .ok (.putfield 26, 3) := by decide +kernel
theorem dX10_init_37 : decode cX10_init 37 = .ok (.aload_n 0, 1) := by decide +kernel
theorem dX10_init_38 : decode cX10_init 38 = .ok (.new 30, 3) := by decide +kernel
theorem dX10_init_41 : decode cX10_init 41 = .ok (.dup, 1) := by decide +kernel
theorem dX10_init_42 : decode cX10_init 42 = .ok (.invokespecial 32, 3) := by decide +kernel
theorem dX10_init_45 : decode cX10_init 45 = .ok (.putfield 33, 3) := by decide +kernel
theorem dX10_init_48 : decode cX10_init 48 = .ok (.return_, 1) := by decide +kernel
theorem dX10_clear_0 : decode cX10_clear 0 = .ok (.aload_n 0, 1) := by decide +kernel
theorem dX10_clear_1 : decode cX10_clear 1 = .ok (.iconst 0, 1) := by decide +kernel
theorem dX10_clear_2 : decode cX10_clear 2 = .ok (.putfield 37, 3) := by decide +kernel
theorem dX10_clear_5 : decode cX10_clear 5 = .ok (.aload_n 0, 1) := by decide +kernel
theorem dX10_clear_6 : decode cX10_clear 6 = .ok (.getfield 10, 3) := by decide +kernel
theorem dX10_clear_9 : decode cX10_clear 9 = .ok (.invokevirtual 41, 3) := by decide +kernel
theorem dX10_clear_12 : decode cX10_clear 12 = .ok (.aload_n 0, 1) := by decide +kernel
theorem dX10_clear_13 : decode cX10_clear 13 = .ok (.getfield 19, 3) := by decide +kernel
theorem dX10_clear_16 : decode cX10_clear 16 = .ok (.invokevirtual 44, 3) := by decide +kernel
theorem dX10_clear_19 : decode cX10_clear 19 = .ok (.aload_n 0, 1) := by decide +kernel
theorem dX10_clear_20 : decode cX10_clear 20 = .ok (.getfield 26, 3) := by decide +kernel
theorem dX10_clear_23 : decode cX10_clear 23 = .ok (.invokevirtual 45, 3) := by decide +kernel
theorem dX10_clear_26 : decode cX10_clear 26 = .ok (.aload_n 0, 1) := by decide +kernel
theorem dX10_clear_27 : decode cX10_clear 27 = .ok (.getfield 33, 3) := by decide +kernel
theorem dX10_clear_30 : decode cX10_clear 30 = .ok (.invokevirtual 46, 3) := by decide +kernel
theorem dX10_clear_33 : decode cX10_clear 33 = .ok (.return_, 1) := by decide +kernel
theorem dX10_become_0 : decode cX10_become 0 = .ok (.aload_n 0, 1) := by decide +kernel
theorem dX10_become_1 : decode cX10_become 1 = .ok (.aload_n 1, 1) := by decide +kernel
theorem dX10_become_2 : decode cX10_become 2 = .ok (.getfield 37, 3) := by decide +kernel
theorem dX10_become_5 : decode cX10_become 5 = .ok (.putfield 37, 3) := by decide +kernel
theorem dX10_become_8 : decode cX10_become 8 = .ok (.aload_n 0, 1) := by decide +kernel
theorem dX10_become_9 : decode cX10_become 9 = .ok (.getfield 10, 3) := by decide +kernel
theorem dX10_become_12 : decode cX10_become 12 = .ok (.aload_n 1, 1) := by decide +kernel
theorem dX10_become_13 : decode cX10_become 13 = .ok (.getfield 10, 3) := by decide +kernel
theorem dX10_become_16 : decode cX10_become 16 = .ok (.invokevirtual 47, 3) := by decide +kernel
theorem dX10_become_19 : decode cX10_become 19 = .ok (.aload_n 0, 1) := by decide +kernel
theorem dX10_become_20 : decode cX10_become 20 = .ok (.getfield 19, 3) := by decide +kernel
theorem dX10_become_23 : decode cX10_become 23 = .ok (.aload_n 1, 1) := by decide +kernel
theorem dX10_become_24 : decode cX10_become 24 = .ok (.getfield 19, 3) := by decide +kernel
theorem dX10_become_27 : decode cX10_become 27 = .ok (.invokevirtual 51, 3) := by decide +kernel
theorem dX10_become_30 : decode cX10_become 30 = .ok (.aload_n 0, 1) := by decide +kernel
theorem dX10_become_31 : decode cX10_become 31 = .ok (.getfield 26, 3) := by decide +kernel
theorem dX10_become_34 : decode cX10_become 34 = .ok (.aload_n 1, 1) := by decide +kernel
theorem dX10_become_35 : decode cX10_become 35 = .ok (.getfield 26, 3) := by decide +kernel
theorem dX10_become_38 : decode cX10_become 38 = .ok (.invokevirtual 54, 3) := by decide +kernel
theorem dX10_become_41 : decode cX10_become 41 = .ok (.aload_n 0, 1) := by decide +kernel
theorem dX10_become_42 : decode cX10_become 42 = .ok (.getfield 33, 3) := by decide +kernel
theorem dX10_become_45 : decode cX10_become 45 = .ok (.aload_n 1, 1) := by decide +kernel
theorem dX10_become_46 : decode cX10_become 46 = .ok (.getfield 33, 3) := by decide +kernel
theorem dX10_become_49 : decode cX10_become 49 = .ok (.invokevirtual 57, 3) := by decide +kernel
theorem dX10_become_52 : decode cX10_become 52 = .ok (.return_, 1) := by decide +kernel
theorem dX11_init_0 : decode cX11_init 0 = .ok (.aload_n 0, 1) := by decide +kernel
theorem dX11_init_1 : decode cX11_init 1 = .ok (.invokespecial 3, 3) := by decide +kernel
theorem dX11_init_4 : decode cX11_init 4 = .ok (.aload_n 0, 1) := by decide +kernel
theorem dX11_init_5 : decode cX11_init 5 = .ok (.bipush 8, 2) := by decide +kernel
theorem dX11_init_7 : decode cX11_init 7 = .ok (.anewarray 9, 3) := by decide +kernel
theorem dX11_init_10 : decode cX11_init 10 = .ok (.putfield 11, 3) := by decide +kernel
theorem dX11_init_13 : decode cX11_init 13 = .ok (.aload_n 0, 1) := by decide +kernel
theorem dX11_init_14 : decode cX11_init 14 = .ok (.new 15, 3) := by decide +kernel
theorem dX11_init_17 : decode cX11_init 17 = .ok (.dup, 1) := by decide +kernel
theorem dX11_init_18 : decode cX11_init 18 = .ok (.invokespecial 17, 3) := by decide +kernel
theorem dX11_init_21 : decode cX11_init 21 = .ok (.putfield 18, 3) := by decide +kernel
theorem dX11_init_24 : decode cX11_init 24 = .ok (.aload_n 0, 1) := by decide +kernel
theorem dX11_init_25 : decode cX11_init 25 = .ok (.new 22, 3) := by decide +kernel
theorem dX11_init_28 : decode cX11_init 28 = .ok (.dup, 1) := by decide +kernel
theorem dX11_init_29 : decode cX11_init 29 = .ok (.aload_n 0, 1) := by decide +kernel
theorem dX11_init_30 : decode cX11_init 30 = .ok (.getfield 18, 3) := by decide +kernel
theorem dX11_init_33 : decode cX11_init 33 = .ok (.invokespecial 24, 3) := by decide +kernel
theorem dX11_init_36 : decode cX11_init 36 = .ok (.putfield 27, 3) := by decide +kernel
theorem dX11_init_39 : decode cX11_init 39 = .ok (.aload_n 0, 1) := by decide +kernel
