theorem dX11_init_40 : decode cX11_init 40 = .ok (.iconst 2, 1) := by decide +kernel
theorem dX11_init_41 : decode cX11_init 41 = .ok (.anewarray 31, 3) := by decide +kernel
theorem dX11_init_44 : decode cX11_init 44 = .ok (.putfield 33, 3) := by decide +kernel
theorem dX11_init_47 : decode cX11_init 47 = .ok (.aload_n 0, 1) := by decide +kernel
theorem dX11_init_48 : decode cX11_init 48 = .ok (.new 37, 3) := by decide +kernel
theorem dX11_init_51 : decode cX11_init 51 = .ok (.dup, 1) := by decide +kernel
theorem dX11_init_52 : decode cX11_init 52 = .ok (.invokespecial 39, 3) := by decide +kernel
theorem dX11_init_55 : decode cX11_init 55 = .ok (.putfield 40, 3) := by decide +kernel
theorem dX11_init_58 : decode cX11_init 58 = .ok (.aload_n 0, 1) := by decide +kernel
theorem dX11_init_59 : decode cX11_init 59 = .ok (.new 44, 3) := by decide +kernel
theorem dX11_init_62 : decode cX11_init 62 = .ok (.dup, 1) := by decide +kernel
theorem dX11_init_63 : decode cX11_init 63 = .ok (.invokespecial 46, 3) := by decide +kernel
theorem dX11_init_66 : decode cX11_init 66 = .ok (.putfield 47, 3) := by decide +kernel
theorem dX11_init_69 : decode cX11_init 69 = .ok (.aload_n 0, 1) := by decide +kernel
theorem dX11_init_70 : decode cX11_init 70 = .ok (.new 31, 3) := by decide +kernel
theorem dX11_init_73 : decode cX11_init 73 = .ok (.dup, 1) := by decide +kernel
theorem dX11_init_74 : decode cX11_init 74 = .ok (.invokespecial 51, 3) := by decide +kernel
theorem dX11_init_77 : decode cX11_init 77 = .ok (.putfield 52, 3) := by decide +kernel
theorem dX11_init_80 : decode cX11_init 80 = .ok (.aload_n 0, 1) := by decide +kernel
theorem dX11_init_81 : decode cX11_init 81 = .ok (.new 31, 3) := by decide +kernel
theorem dX11_init_84 : decode cX11_init 84 = .ok (.dup, 1) := by decide +kernel
theorem dX11_init_85 : decode cX11_init 85 = .ok (.invokespecial 51, 3) := by decide +kernel
theorem dX11_init_88 : decode cX11_init 88 = .ok (.putfield 56, 3) := by decide +kernel
theorem dX11_init_91 : decode cX11_init 91 = .ok (.iconst 0, 1) := by decide +kernel
theorem dX11_init_92 : decode cX11_init 92 = .ok (.istore_n 1, 1) := by decide +kernel
theorem dX11_init_93 : decode cX11_init 93 = .ok (.iload_n 1, 1) := by decide +kernel
theorem dX11_init_94 : decode cX11_init 94 = .ok (.bipush 8, 2) := by decide +kernel
theorem dX11_init_96 : decode cX11_init 96 = .ok (.if_icmp .ge 22, 3) := by decide +kernel
theorem dX11_init_99 : decode cX11_init 99 = .ok (.aload_n 0, 1) := by decide +kernel
theorem dX11_init_100 : decode cX11_init 100 = .ok (.getfield 11, 3) := by decide +kernel
theorem dX11_init_103 : decode cX11_init 103 = .ok (.iload_n 1, 1) := by decide +kernel
theorem dX11_init_104 : decode cX11_init 104 = .ok (.new 9, 3) := by decide +kernel
theorem dX11_init_107 : decode cX11_init 107 = .ok (.dup, 1) := by decide +kernel
theorem dX11_init_108 : decode cX11_init 108 = .ok (.invokespecial 59, 3) := by decide +kernel
theorem dX11_init_111 : decode cX11_init 111 = .ok (.aastore, 1) := by decide +kernel
theorem dX11_init_112 : decode cX11_init 112 = .ok (.iinc 1 1, 3) := by decide +kernel
theorem dX11_init_115 : decode cX11_init 115 = .ok (.goto (-22), 3) := by decide +kernel
theorem dX11_init_118 : decode cX11_init 118 = .ok (.iconst 0, 1) := by decide +kernel
theorem dX11_init_119 : decode cX11_init 119 = .ok (.istore_n 1, 1) := by decide +kernel
theorem dX11_init_120 : decode cX11_init 120 = .ok (.iload_n 1, 1) := by decide +kernel
theorem dX11_init_121 : decode cX11_init 121 = .ok (.iconst 2, 1) := by decide +kernel
theorem dX11_init_122 : decode cX11_init 122 = .ok (.if_icmp .ge 22, 3) := by decide +kernel
theorem dX11_init_125 : decode cX11_init 125 = .ok (.aload_n 0, 1) := by decide +kernel
theorem dX11_init_126 : decode cX11_init 126 = .ok (.getfield 33, 3) := by decide +kernel
theorem dX11_init_129 : decode cX11_init 129 = .ok (.iload_n 1, 1) := by decide +kernel
theorem dX11_init_130 : decode cX11_init 130 = .ok (.new 31, 3) := by decide +kernel
theorem dX11_init_133 : decode cX11_init 133 = .ok (.dup, 1) := by decide +kernel
theorem dX11_init_134 : decode cX11_init 134 = .ok (.invokespecial 51, 3) := by decide +kernel
theorem dX11_init_137 : decode cX11_init 137 = .ok (.aastore, 1) := by decide +kernel
theorem dX11_init_138 : decode cX11_init 138 = .ok (.iinc 1 1, 3) := by decide +kernel
theorem dX11_init_141 : decode cX11_init 141 = .ok (.goto (-21), 3) := by decide +kernel
theorem dX11_init_144 : decode cX11_init 144 = .ok (.return_, 1) := by decide +kernel
theorem dX11_row_0 : decode cX11_row 0 = .ok (.iload_n 1, 1) := by decide +kernel
theorem dX11_row_1 : decode cX11_row 1 = .ok (.iconst 0, 1) := by decide +kernel
theorem dX11_row_2 : decode cX11_row 2 = .ok (.bipush 7, 2) := by decide +kernel
theorem dX11_row_4 : decode cX11_row 4 = .ok (.invokestatic 60, 3) := by decide +kernel
theorem dX11_row_7 : decode cX11_row 7 = .ok (.ifCond .eq 18, 3) := by decide +kernel
theorem dX11_row_10 : decode cX11_row 10 = .ok (.iload_n 2, 1) := by decide +kernel
theorem dX11_row_11 : decode cX11_row 11 = .ok (.iconst 0, 1) := by decide +kernel
theorem dX11_row_12 : decode cX11_row 12 = .ok (.iconst 2, 1) := by decide +kernel
theorem dX11_row_13 : decode cX11_row 13 = .ok (.invokestatic 60, 3) := by decide +kernel
theorem dX11_row_16 : decode cX11_row 16 = .ok (.ifCond .eq 9, 3) := by decide +kernel
theorem dX11_row_19 : decode cX11_row 19 = .ok (.iload_n 3, 1) := by decide +kernel
theorem dX11_row_20 : decode cX11_row 20 = .ok (.bipush 40, 2) := by decide +kernel
theorem dX11_row_22 : decode cX11_row 22 = .ok (.if_icmp .le 7, 3) := by decide +kernel
theorem dX11_row_25 : decode cX11_row 25 = .ok (.ldc2_w 64, 3) := by decide +kernel
theorem dX11_row_28 : decode cX11_row 28 = .ok (.lreturn, 1) := by decide +kernel
theorem dX11_row_29 : decode cX11_row 29 = .ok (.iload_n 3, 1) := by decide +kernel
theorem dX11_row_30 : decode cX11_row 30 = .ok (.ifCond .ge 9, 3) := by decide +kernel
theorem dX11_row_33 : decode cX11_row 33 = .ok (.aload_n 0, 1) := by decide +kernel
theorem dX11_row_34 : decode cX11_row 34 = .ok (.iconst 4, 1) := by decide +kernel
theorem dX11_row_35 : decode cX11_row 35 = .ok (.invokevirtual 66, 3) := by decide +kernel
theorem dX11_row_38 : decode cX11_row 38 = .ok (.lreturn, 1) := by decide +kernel
theorem dX11_row_39 : decode cX11_row 39 = .ok (.aload_n 0, 1) := by decide +kernel
theorem dX11_row_40 : decode cX11_row 40 = .ok (.getfield 11, 3) := by decide +kernel
theorem dX11_row_43 : decode cX11_row 43 = .ok (.iload_n 1, 1) := by decide +kernel
theorem dX11_row_44 : decode cX11_row 44 = .ok (.aaload, 1) := by decide +kernel
theorem dX11_row_45 : decode cX11_row 45 = .ok (.iload_n 2, 1) := by decide +kernel
theorem dX11_row_46 : decode cX11_row 46 = .ok (.iload_n 3, 1) := by decide +kernel
theorem dX11_row_47 : decode cX11_row 47 = .ok (.invokevirtual 70, 3) := by decide +kernel
theorem dX11_row_50 : decode cX11_row 50 = .ok (.aload_n 0, 1) := by decide +kernel
theorem dX11_row_51 : decode cX11_row 51 = .ok (.iload_n 3, 1) := by decide +kernel
theorem dX11_row_52 : decode cX11_row 52 = .ok (.i2l, 1) := by decide +kernel
theorem dX11_row_53 : decode cX11_row 53 = .ok (.invokevirtual 74, 3) := by decide +kernel
theorem dX11_row_56 : decode cX11_row 56 = .ok (.lreturn, 1) := by decide +kernel
theorem dX11_set_0 : decode cX11_set 0 = .ok (.iload_n 1, 1) := by decide +kernel
theorem dX11_set_1 : decode cX11_set 1 = .ok (.iconst 0, 1) := by decide +kernel
theorem dX11_set_2 : decode cX11_set 2 = .ok (.bipush 7, 2) := by decide +kernel
theorem dX11_set_4 : decode cX11_set 4 = .ok (.invokestatic 60, 3) := by decide +kernel
theorem dX11_set_7 : decode cX11_set 7 = .ok (.ifCond .ne 7, 3) := by decide +kernel
theorem dX11_set_10 : decode cX11_set 10 = .ok (.ldc2_w 64, 3) := by decide +kernel
theorem dX11_set_13 : decode cX11_set 13 = .ok (.lreturn, 1) := by decide +kernel
theorem dX11_set_14 : decode cX11_set 14 = .ok (.aload_n 0, 1) := by decide +kernel
theorem dX11_set_15 : decode cX11_set 15 = .ok (.getfield 11, 3) := by decide +kernel
theorem dX11_set_18 : decode cX11_set 18 = .ok (.iload_n 1, 1) := by decide +kernel
theorem dX11_set_19 : decode cX11_set 19 = .ok (.aaload, 1) := by decide +kernel
theorem dX11_set_20 : decode cX11_set 20 = .ok (.astore 4, 2) := by decide +kernel
theorem dX11_set_22 : decode cX11_set 22 = .ok (.aload 4, 2) := by decide +kernel
theorem dX11_set_24 : decode cX11_set 24 = .ok (.invokevirtual 78, 3) := by decide +kernel
theorem dX11_set_27 : decode cX11_set 27 = .ok (.ifCond .eq 9, 3) := by decide +kernel
theorem dX11_set_30 : decode cX11_set 30 = .ok (.aload_n 0, 1) := by decide +kernel
theorem dX11_set_31 : decode cX11_set 31 = .ok (.iconst 1, 1) := by decide +kernel
theorem dX11_set_32 : decode cX11_set 32 = .ok (.invokevirtual 66, 3) := by decide +kernel
theorem dX11_set_35 : decode cX11_set 35 = .ok (.lreturn, 1) := by decide +kernel
theorem dX11_set_36 : decode cX11_set 36 = .ok (.aload 4, 2) := by decide +kernel
theorem dX11_set_38 : decode cX11_set 38 = .ok (.iload_n 2, 1) := by decide +kernel
theorem dX11_set_39 : decode cX11_set 39 = .ok (.iconst 1, 1) := by decide +kernel
theorem dX11_set_40 : decode cX11_set 40 = .ok (.invokevirtual 82, 3) := by decide +kernel
theorem dX11_set_43 : decode cX11_set 43 = .ok (.ifCond .ne 9, 3) := by decide +kernel
theorem dX11_set_46 : decode cX11_set 46 = .ok (.aload_n 0, 1) := by decide +kernel
theorem dX11_set_47 : decode cX11_set 47 = .ok (.iconst 2, 1) := by decide +kernel
theorem dX11_set_48 : decode cX11_set 48 = .ok (.invokevirtual 66, 3) := by decide +kernel
theorem dX11_set_51 : decode cX11_set 51 = .ok (.lreturn, 1) := by decide +kernel
theorem dX11_set_52 : decode cX11_set 52 = .ok (.aload_n 0, 1) := by decide +kernel
theorem dX11_set_53 : decode cX11_set 53 = .ok (.aload 4, 2) := by decide +kernel
theorem dX11_set_55 : decode cX11_set 55 = .ok (.iload_n 2, 1) := by decide +kernel
theorem dX11_set_56 : decode cX11_set 56 = .ok (.iload_n 3, 1) := by decide +kernel
theorem dX11_set_57 : decode cX11_set 57 = .ok (.invokevirtual 86, 3) := by decide +kernel
theorem dX11_set_60 : decode cX11_set 60 = .ok (.i2l, 1) := by decide +kernel
theorem dX11_set_61 : decode cX11_set 61 = .ok (.invokevirtual 74, 3) := by decide +kernel
theorem dX11_set_64 : decode cX11_set 64 = .ok (.lreturn, 1) := by decide +kernel
theorem dX11_copy_0 : decode cX11_copy 0 = .ok (.iload_n 1, 1) := by decide +kernel
theorem dX11_copy_1 : decode cX11_copy 1 = .ok (.iconst 0, 1) := by decide +kernel
theorem dX11_copy_2 : decode cX11_copy 2 = .ok (.bipush 7, 2) := by decide +kernel
theorem dX11_copy_4 : decode cX11_copy 4 = .ok (.invokestatic 60, 3) := by decide +kernel
theorem dX11_copy_7 : decode cX11_copy 7 = .ok (.ifCond .eq 13, 3) := by decide +kernel
theorem dX11_copy_10 : decode cX11_copy 10 = .ok (.iload_n 3, 1) := by decide +kernel
theorem dX11_copy_11 : decode cX11_copy 11 = .ok (.iconst 0, 1) := by decide +kernel
theorem dX11_copy_12 : decode cX11_copy 12 = .ok (.bipush 7, 2) := by decide +kernel
theorem dX11_copy_14 : decode cX11_copy 14 = .ok (.invokestatic 60, 3) := by decide +kernel
theorem dX11_copy_17 : decode cX11_copy 17 = .ok (.ifCond .ne 7, 3) := by decide +kernel
theorem dX11_copy_20 : decode cX11_copy 20 = .ok (.ldc2_w 64, 3) := by decide +kernel
theorem dX11_copy_23 : decode cX11_copy 23 = .ok (.lreturn, 1) := by decide +kernel
theorem dX11_copy_24 : decode cX11_copy 24 = .ok (.aload_n 0, 1) := by decide +kernel
theorem dX11_copy_25 : decode cX11_copy 25 = .ok (.getfield 11, 3) := by decide +kernel
theorem dX11_copy_28 : decode cX11_copy 28 = .ok (.iload_n 1, 1) := by decide +kernel
theorem dX11_copy_29 : decode cX11_copy 29 = .ok (.aaload, 1) := by decide +kernel
theorem dX11_copy_30 : decode cX11_copy 30 = .ok (.astore 6, 2) := by decide +kernel
theorem dX11_copy_32 : decode cX11_copy 32 = .ok (.aload_n 0, 1) := by decide +kernel
theorem dX11_copy_33 : decode cX11_copy 33 = .ok (.getfield 11, 3) := by decide +kernel
theorem dX11_copy_36 : decode cX11_copy 36 = .ok (.iload_n 3, 1) := by decide +kernel
theorem dX11_copy_37 : decode cX11_copy 37 = .ok (.aaload, 1) := by decide +kernel
theorem dX11_copy_38 : decode cX11_copy 38 = .ok (.astore 7, 2) := by decide +kernel
theorem dX11_copy_40 : decode cX11_copy 40 = .ok (.aload 6, 2) := by decide +kernel
theorem dX11_copy_42 : decode cX11_copy 42 = .ok (.invokevirtual 78, 3) := by decide +kernel
theorem dX11_copy_45 : decode cX11_copy 45 = .ok (.ifCond .ne 11, 3) := by decide +kernel
theorem dX11_copy_48 : decode cX11_copy 48 = .ok (.aload 7, 2) := by decide +kernel
theorem dX11_copy_50 : decode cX11_copy 50 = .ok (.invokevirtual 78, 3) := by decide +kernel
theorem dX11_copy_53 : decode cX11_copy 53 = .ok (.ifCond .eq 9, 3) := by decide +kernel
theorem dX11_copy_56 : decode cX11_copy 56 = .ok (.aload_n 0, 1) := by decide +kernel
theorem dX11_copy_57 : decode cX11_copy 57 = .ok (.iconst 1, 1) := by decide +kernel
theorem dX11_copy_58 : decode cX11_copy 58 = .ok (.invokevirtual 66, 3) := by decide +kernel
theorem dX11_copy_61 : decode cX11_copy 61 = .ok (.lreturn, 1) := by decide +kernel
theorem dX11_copy_62 : decode cX11_copy 62 = .ok (.aload 6, 2) := by decide +kernel
theorem dX11_copy_64 : decode cX11_copy 64 = .ok (.getfield 90, 3) := by decide +kernel
theorem dX11_copy_67 : decode cX11_copy 67 = .ok (.aload 7, 2) := by decide +kernel
theorem dX11_copy_69 : decode cX11_copy 69 = .ok (.getfield 90, 3) := by decide +kernel
theorem dX11_copy_72 : decode cX11_copy 72 = .ok (.if_icmp .eq 9, 3) := by decide +kernel
theorem dX11_copy_75 : decode cX11_copy 75 = .ok (.aload_n 0, 1) := by decide +kernel
theorem dX11_copy_76 : decode cX11_copy 76 = .ok (.iconst 5, 1) := by decide +kernel
theorem dX11_copy_77 : decode cX11_copy 77 = .ok (.invokevirtual 66, 3) := by decide +kernel
theorem dX11_copy_80 : decode cX11_copy 80 = .ok (.lreturn, 1) := by decide +kernel
theorem dX11_copy_81 : decode cX11_copy 81 = .ok (.aload 6, 2) := by decide +kernel
theorem dX11_copy_83 : decode cX11_copy 83 = .ok (.iload_n 2, 1) := by decide +kernel
theorem dX11_copy_84 : decode cX11_copy 84 = .ok (.iload 5, 2) := by decide +kernel
theorem dX11_copy_86 : decode cX11_copy 86 = .ok (.invokevirtual 82, 3) := by decide +kernel
theorem dX11_copy_89 : decode cX11_copy 89 = .ok (.ifCond .eq 15, 3) := by decide +kernel
theorem dX11_copy_92 : decode cX11_copy 92 = .ok (.aload 7, 2) := by decide +kernel
theorem dX11_copy_94 : decode cX11_copy 94 = .ok (.iload 4, 2) := by decide +kernel
theorem dX11_copy_96 : decode cX11_copy 96 = .ok (.iload 5, 2) := by decide +kernel
theorem dX11_copy_98 : decode cX11_copy 98 = .ok (.invokevirtual 82, 3) := by decide +kernel
theorem dX11_copy_101 : decode cX11_copy 101 = .ok (.ifCond .ne 9, 3) := by decide +kernel
theorem dX11_copy_104 : decode cX11_copy 104 = .ok (.aload_n 0, 1) := by decide +kernel
theorem dX11_copy_105 : decode cX11_copy 105 = .ok (.iconst 2, 1) := by decide +kernel
theorem dX11_copy_106 : decode cX11_copy 106 = .ok (.invokevirtual 66, 3) := by decide +kernel
theorem dX11_copy_109 : decode cX11_copy 109 = .ok (.lreturn, 1) := by decide +kernel
theorem dX11_copy_110 : decode cX11_copy 110 = .ok (.aload 6, 2) := by decide +kernel
theorem dX11_copy_112 : decode cX11_copy 112 = .ok (.getfield 94, 3) := by decide +kernel
theorem dX11_copy_115 : decode cX11_copy 115 = .ok (.iload_n 2, 1) := by decide +kernel
theorem dX11_copy_116 : decode cX11_copy 116 = .ok (.aload 7, 2) := by decide +kernel
theorem dX11_copy_118 : decode cX11_copy 118 = .ok (.getfield 94, 3) := by decide +kernel
theorem dX11_copy_121 : decode cX11_copy 121 = .ok (.iload 4, 2) := by decide +kernel
theorem dX11_copy_123 : decode cX11_copy 123 = .ok (.iload 5, 2) := by decide +kernel
theorem dX11_copy_125 : decode cX11_copy 125 = .ok (.invokestatic 98, 3) := by decide +kernel
theorem dX11_copy_128 : decode cX11_copy 128 = .ok (.aload_n 0, 1) := by decide +kernel
theorem dX11_copy_129 : decode cX11_copy 129 = .ok (.iload 5, 2) := by decide +kernel
theorem dX11_copy_131 : decode cX11_copy 131 = .ok (.i2l, 1) := by decide +kernel
theorem dX11_copy_132 : decode cX11_copy 132 = .ok (.invokevirtual 74, 3) := by decide +kernel
theorem dX11_copy_135 : decode cX11_copy 135 = .ok (.lreturn, 1) := by decide +kernel
theorem dX11_drop_0 : decode cX11_drop 0 = .ok (.iload_n 1, 1) := by decide +kernel
theorem dX11_drop_1 : decode cX11_drop 1 = .ok (.iconst 0, 1) := by decide +kernel
theorem dX11_drop_2 : decode cX11_drop 2 = .ok (.bipush 7, 2) := by decide +kernel
theorem dX11_drop_4 : decode cX11_drop 4 = .ok (.invokestatic 60, 3) := by decide +kernel
theorem dX11_drop_7 : decode cX11_drop 7 = .ok (.ifCond .ne 7, 3) := by decide +kernel
theorem dX11_drop_10 : decode cX11_drop 10 = .ok (.ldc2_w 64, 3) := by decide +kernel
theorem dX11_drop_13 : decode cX11_drop 13 = .ok (.lreturn, 1) := by decide +kernel
theorem dX11_drop_14 : decode cX11_drop 14 = .ok (.aload_n 0, 1) := by decide +kernel
theorem dX11_drop_15 : decode cX11_drop 15 = .ok (.getfield 11, 3) := by decide +kernel
theorem dX11_drop_18 : decode cX11_drop 18 = .ok (.iload_n 1, 1) := by decide +kernel
theorem dX11_drop_19 : decode cX11_drop 19 = .ok (.aaload, 1) := by decide +kernel
theorem dX11_drop_20 : decode cX11_drop 20 = .ok (.astore_n 2, 1) := by decide +kernel
theorem dX11_drop_21 : decode cX11_drop 21 = .ok (.aload_n 2, 1) := by decide +kernel
theorem dX11_drop_22 : decode cX11_drop 22 = .ok (.invokevirtual 78, 3) := by decide +kernel
theorem dX11_drop_25 : decode cX11_drop 25 = .ok (.ifCond .eq 9, 3) := by decide +kernel
theorem dX11_drop_28 : decode cX11_drop 28 = .ok (.aload_n 0, 1) := by decide +kernel
theorem dX11_drop_29 : decode cX11_drop 29 = .ok (.iconst 1, 1) := by decide +kernel
theorem dX11_drop_30 : decode cX11_drop 30 = .ok (.invokevirtual 66, 3) := by decide +kernel
theorem dX11_drop_33 : decode cX11_drop 33 = .ok (.lreturn, 1) := by decide +kernel
theorem dX11_drop_34 : decode cX11_drop 34 = .ok (.aload_n 2, 1) := by decide +kernel
theorem dX11_drop_35 : decode cX11_drop 35 = .ok (.getfield 104, 3) := by decide +kernel
theorem dX11_drop_38 : decode cX11_drop 38 = .ok (.istore_n 3, 1) := by decide +kernel
theorem dX11_drop_39 : decode cX11_drop 39 = .ok (.aload_n 2, 1) := by decide +kernel
theorem dX11_drop_40 : decode cX11_drop 40 = .ok (.invokevirtual 107, 3) := by decide +kernel
theorem dX11_drop_43 : decode cX11_drop 43 = .ok (.aload_n 0, 1) := by decide +kernel
theorem dX11_drop_44 : decode cX11_drop 44 = .ok (.iload_n 3, 1) := by decide +kernel
theorem dX11_drop_45 : decode cX11_drop 45 = .ok (.i2l, 1) := by decide +kernel
theorem dX11_drop_46 : decode cX11_drop 46 = .ok (.invokevirtual 74, 3) := by decide +kernel
theorem dX11_drop_49 : decode cX11_drop 49 = .ok (.lreturn, 1) := by decide +kernel
theorem dX11_feed_0 : decode cX11_feed 0 = .ok (.iload_n 3, 1) := by decide +kernel
theorem dX11_feed_1 : decode cX11_feed 1 = .ok (.iconst 1, 1) := by decide +kernel
theorem dX11_feed_2 : decode cX11_feed 2 = .ok (.bipush 8, 2) := by decide +kernel
theorem dX11_feed_4 : decode cX11_feed 4 = .ok (.invokestatic 60, 3) := by decide +kernel
theorem dX11_feed_7 : decode cX11_feed 7 = .ok (.ifCond .ne 7, 3) := by decide +kernel
theorem dX11_feed_10 : decode cX11_feed 10 = .ok (.ldc2_w 64, 3) := by decide +kernel
theorem dX11_feed_13 : decode cX11_feed 13 = .ok (.lreturn, 1) := by decide +kernel
theorem dX11_feed_14 : decode cX11_feed 14 = .ok (.aload_n 0, 1) := by decide +kernel
theorem dX11_feed_15 : decode cX11_feed 15 = .ok (.getfield 18, 3) := by decide +kernel
theorem dX11_feed_18 : decode cX11_feed 18 = .ok (.getfield 110, 3) := by decide +kernel
theorem dX11_feed_21 : decode cX11_feed 21 = .ok (.iload_n 3, 1) := by decide +kernel
theorem dX11_feed_22 : decode cX11_feed 22 = .ok (.iadd, 1) := by decide +kernel
theorem dX11_feed_23 : decode cX11_feed 23 = .ok (.sipush 600, 3) := by decide +kernel
theorem dX11_feed_26 : decode cX11_feed 26 = .ok (.if_icmp .le 7, 3) := by decide +kernel
theorem dX11_feed_29 : decode cX11_feed 29 = .ok (.ldc2_w 111, 3) := by decide +kernel
theorem dX11_feed_32 : decode cX11_feed 32 = .ok (.lreturn, 1) := by decide +kernel
theorem dX11_feed_33 : decode cX11_feed 33 = .ok (.aload_n 0, 1) := by decide +kernel
theorem dX11_feed_34 : decode cX11_feed 34 = .ok (.getfield 18, 3) := by decide +kernel
theorem dX11_feed_37 : decode cX11_feed 37 = .ok (.lload_n 1, 1) := by decide +kernel
theorem dX11_feed_38 : decode cX11_feed 38 = .ok (.iload_n 3, 1) := by decide +kernel
theorem dX11_feed_39 : decode cX11_feed 39 = .ok (.invokevirtual 113, 3) := by decide +kernel
theorem dX11_feed_42 : decode cX11_feed 42 = .ok (.aload_n 0, 1) := by decide +kernel
theorem dX11_feed_43 : decode cX11_feed 43 = .ok (.getfield 18, 3) := by decide +kernel
theorem dX11_feed_46 : decode cX11_feed 46 = .ok (.getfield 110, 3) := by decide +kernel
theorem dX11_feed_49 : decode cX11_feed 49 = .ok (.i2l, 1) := by decide +kernel
theorem dX11_feed_50 : decode cX11_feed 50 = .ok (.lreturn, 1) := by decide +kernel
theorem dX11_sea_0 : decode cX11_sea 0 = .ok (.aload_n 0, 1) := by decide +kernel
theorem dX11_sea_1 : decode cX11_sea 1 = .ok (.getfield 27, 3) := by decide +kernel
theorem dX11_sea_4 : decode cX11_sea 4 = .ok (.aload_n 0, 1) := by decide +kernel
theorem dX11_sea_5 : decode cX11_sea 5 = .ok (.getfield 56, 3) := by decide +kernel
theorem dX11_sea_8 : decode cX11_sea 8 = .ok (.invokevirtual 117, 3) := by decide +kernel
theorem dX11_sea_11 : decode cX11_sea 11 = .ok (.aload_n 0, 1) := by decide +kernel
theorem dX11_sea_12 : decode cX11_sea 12 = .ok (.getfield 18, 3) := by decide +kernel
theorem dX11_sea_15 : decode cX11_sea 15 = .ok (.invokevirtual 121, 3) := by decide +kernel
theorem dX11_sea_18 : decode cX11_sea 18 = .ok (.aload_n 0, 1) := by decide +kernel
theorem dX11_sea_19 : decode cX11_sea 19 = .ok (.getfield 27, 3) := by decide +kernel
theorem dX11_sea_22 : decode cX11_sea 22 = .ok (.getfield 124, 3) := by decide +kernel
theorem dX11_sea_25 : decode cX11_sea 25 = .ok (.ifCond .eq 27, 3) := by decide +kernel
theorem dX11_sea_28 : decode cX11_sea 28 = .ok (.aload_n 0, 1) := by decide +kernel
theorem dX11_sea_29 : decode cX11_sea 29 = .ok (.aload_n 0, 1) := by decide +kernel
theorem dX11_sea_30 : decode cX11_sea 30 = .ok (.getfield 27, 3) := by decide +kernel
theorem dX11_sea_33 : decode cX11_sea 33 = .ok (.getfield 124, 3) := by decide +kernel
theorem dX11_sea_36 : decode cX11_sea 36 = .ok (.putfield 127, 3) := by decide +kernel
theorem dX11_sea_39 : decode cX11_sea 39 = .ok (.ldc2_w 130, 3) := by decide +kernel
theorem dX11_sea_42 : decode cX11_sea 42 = .ok (.aload_n 0, 1) := by decide +kernel
theorem dX11_sea_43 : decode cX11_sea 43 = .ok (.getfield 27, 3) := by decide +kernel
theorem dX11_sea_46 : decode cX11_sea 46 = .ok (.getfield 132, 3) := by decide +kernel
theorem dX11_sea_49 : decode cX11_sea 49 = .ok (.i2l, 1) := by decide +kernel
theorem dX11_sea_50 : decode cX11_sea 50 = .ok (.lsub, 1) := by decide +kernel
theorem dX11_sea_51 : decode cX11_sea 51 = .ok (.lreturn, 1) := by decide +kernel
theorem dX11_sea_52 : decode cX11_sea 52 = .ok (.aload_n 0, 1) := by decide +kernel
theorem dX11_sea_53 : decode cX11_sea 53 = .ok (.getfield 52, 3) := by decide +kernel
theorem dX11_sea_56 : decode cX11_sea 56 = .ok (.astore_n 1, 1) := by decide +kernel
theorem dX11_sea_57 : decode cX11_sea 57 = .ok (.aload_n 0, 1) := by decide +kernel
theorem dX11_sea_58 : decode cX11_sea 58 = .ok (.aload_n 0, 1) := by decide +kernel
theorem dX11_sea_59 : decode cX11_sea 59 = .ok (.getfield 56, 3) := by decide +kernel
theorem dX11_sea_62 : decode cX11_sea 62 = .ok (.putfield 52, 3) := by decide +kernel
theorem dX11_sea_65 : decode cX11_sea 65 = .ok (.aload_n 0, 1) := by decide +kernel
theorem dX11_sea_66 : decode cX11_sea 66 = .ok (.aload_n 1, 1) := by decide +kernel
theorem dX11_sea_67 : decode cX11_sea 67 = .ok (.putfield 56, 3) := by decide +kernel
theorem dX11_sea_70 : decode cX11_sea 70 = .ok (.aload_n 0, 1) := by decide +kernel
theorem dX11_sea_71 : decode cX11_sea 71 = .ok (.getfield 52, 3) := by decide +kernel
theorem dX11_sea_74 : decode cX11_sea 74 = .ok (.getfield 135, 3) := by decide +kernel
theorem dX11_sea_77 : decode cX11_sea 77 = .ok (.getfield 139, 3) := by decide +kernel
theorem dX11_sea_80 : decode cX11_sea 80 = .ok (.i2l, 1) := by decide +kernel
theorem dX11_sea_81 : decode cX11_sea 81 = .ok (.lreturn, 1) := by decide +kernel
theorem dX11_fault_0 : decode cX11_fault 0 = .ok (.aload_n 0, 1) := by decide +kernel
theorem dX11_fault_1 : decode cX11_fault 1 = .ok (.getfield 127, 3) := by decide +kernel
theorem dX11_fault_4 : decode cX11_fault 4 = .ok (.ireturn, 1) := by decide +kernel
theorem dX11_put_0 : decode cX11_put 0 = .ok (.aload_n 0, 1) := by decide +kernel
theorem dX11_put_1 : decode cX11_put 1 = .ok (.getfield 52, 3) := by decide +kernel
theorem dX11_put_4 : decode cX11_put 4 = .ok (.getfield 144, 3) := by decide +kernel
theorem dX11_put_7 : decode cX11_put 7 = .ok (.ifCond .ne 7, 3) := by decide +kernel
theorem dX11_put_10 : decode cX11_put 10 = .ok (.ldc2_w 148, 3) := by decide +kernel
theorem dX11_put_13 : decode cX11_put 13 = .ok (.lreturn, 1) := by decide +kernel
theorem dX11_put_14 : decode cX11_put 14 = .ok (.aload_n 0, 1) := by decide +kernel
theorem dX11_put_15 : decode cX11_put 15 = .ok (.getfield 52, 3) := by decide +kernel
theorem dX11_put_18 : decode cX11_put 18 = .ok (.getfield 150, 3) := by decide +kernel
theorem dX11_put_21 : decode cX11_put 21 = .ok (.iload_n 1, 1) := by decide +kernel
theorem dX11_put_22 : decode cX11_put 22 = .ok (.iload_n 2, 1) := by decide +kernel
theorem dX11_put_23 : decode cX11_put 23 = .ok (.invokevirtual 154, 3) := by decide +kernel
theorem dX11_put_26 : decode cX11_put 26 = .ok (.ifCond .eq 23, 3) := by decide +kernel
theorem dX11_put_29 : decode cX11_put 29 = .ok (.iload_n 3, 1) := by decide +kernel
theorem dX11_put_30 : decode cX11_put 30 = .ok (.iconst 0, 1) := by decide +kernel
theorem dX11_put_31 : decode cX11_put 31 = .ok (.aload_n 0, 1) := by decide +kernel
theorem dX11_put_32 : decode cX11_put 32 = .ok (.getfield 52, 3) := by decide +kernel
theorem dX11_put_35 : decode cX11_put 35 = .ok (.getfield 159, 3) := by decide +kernel
theorem dX11_put_38 : decode cX11_put 38 = .ok (.getfield 163, 3) := by decide +kernel
theorem dX11_put_41 : decode cX11_put 41 = .ok (.iconst 1, 1) := by decide +kernel
theorem dX11_put_42 : decode cX11_put 42 = .ok (.isub, 1) := by decide +kernel
theorem dX11_put_43 : decode cX11_put 43 = .ok (.invokestatic 60, 3) := by decide +kernel
theorem dX11_put_46 : decode cX11_put 46 = .ok (.ifCond .ne 7, 3) := by decide +kernel
theorem dX11_put_49 : decode cX11_put 49 = .ok (.ldc2_w 64, 3) := by decide +kernel
theorem dX11_put_52 : decode cX11_put 52 = .ok (.lreturn, 1) := by decide +kernel
theorem dX11_put_53 : decode cX11_put 53 = .ok (.iload_n 1, 1) := by decide +kernel
theorem dX11_put_54 : decode cX11_put 54 = .ok (.bipush 16, 2) := by decide +kernel
theorem dX11_put_56 : decode cX11_put 56 = .ok (.iload_n 2, 1) := by decide +kernel
theorem dX11_put_57 : decode cX11_put 57 = .ok (.imul, 1) := by decide +kernel
theorem dX11_put_58 : decode cX11_put 58 = .ok (.iadd, 1) := by decide +kernel
theorem dX11_put_59 : decode cX11_put 59 = .ok (.istore 4, 2) := by decide +kernel
theorem dX11_put_61 : decode cX11_put 61 = .ok (.aload_n 0, 1) := by decide +kernel
theorem dX11_put_62 : decode cX11_put 62 = .ok (.getfield 52, 3) := by decide +kernel
theorem dX11_put_65 : decode cX11_put 65 = .ok (.getfield 150, 3) := by decide +kernel
theorem dX11_put_68 : decode cX11_put 68 = .ok (.iload 4, 2) := by decide +kernel
theorem dX11_put_70 : decode cX11_put 70 = .ok (.invokevirtual 168, 3) := by decide +kernel
theorem dX11_put_73 : decode cX11_put 73 = .ok (.ifCond .eq 7, 3) := by decide +kernel
theorem dX11_put_76 : decode cX11_put 76 = .ok (.ldc2_w 64, 3) := by decide +kernel
theorem dX11_put_79 : decode cX11_put 79 = .ok (.lreturn, 1) := by decide +kernel
theorem dX11_put_80 : decode cX11_put 80 = .ok (.aload_n 0, 1) := by decide +kernel
theorem dX11_put_81 : decode cX11_put 81 = .ok (.getfield 52, 3) := by decide +kernel
theorem dX11_put_84 : decode cX11_put 84 = .ok (.getfield 159, 3) := by decide +kernel
theorem dX11_put_87 : decode cX11_put 87 = .ok (.iload 4, 2) := by decide +kernel
theorem dX11_put_89 : decode cX11_put 89 = .ok (.iload_n 3, 1) := by decide +kernel
theorem dX11_put_90 : decode cX11_put 90 = .ok (.invokevirtual 172, 3) := by decide +kernel
theorem dX11_put_93 : decode cX11_put 93 = .ok (.lconst 1, 1) := by decide +kernel
theorem dX11_put_94 : decode cX11_put 94 = .ok (.lreturn, 1) := by decide +kernel
theorem dX11_head_0 : decode cX11_head 0 = .ok (.aload_n 0, 1) := by decide +kernel
theorem dX11_head_1 : decode cX11_head 1 = .ok (.getfield 52, 3) := by decide +kernel
theorem dX11_head_4 : decode cX11_head 4 = .ok (.getfield 144, 3) := by decide +kernel
theorem dX11_head_7 : decode cX11_head 7 = .ok (.ifCond .ne 7, 3) := by decide +kernel
theorem dX11_head_10 : decode cX11_head 10 = .ok (.ldc2_w 148, 3) := by decide +kernel
theorem dX11_head_13 : decode cX11_head 13 = .ok (.lreturn, 1) := by decide +kernel
theorem dX11_head_14 : decode cX11_head 14 = .ok (.iload_n 1, 1) := by decide +kernel
theorem dX11_head_15 : decode cX11_head 15 = .ok (.iconst 0, 1) := by decide +kernel
theorem dX11_head_16 : decode cX11_head 16 = .ok (.bipush 7, 2) := by decide +kernel
theorem dX11_head_18 : decode cX11_head 18 = .ok (.invokestatic 60, 3) := by decide +kernel
theorem dX11_head_21 : decode cX11_head 21 = .ok (.ifCond .ne 7, 3) := by decide +kernel
theorem dX11_head_24 : decode cX11_head 24 = .ok (.ldc2_w 64, 3) := by decide +kernel
theorem dX11_head_27 : decode cX11_head 27 = .ok (.lreturn, 1) := by decide +kernel
theorem dX11_head_28 : decode cX11_head 28 = .ok (.aload_n 0, 1) := by decide +kernel
theorem dX11_head_29 : decode cX11_head 29 = .ok (.getfield 52, 3) := by decide +kernel
theorem dX11_head_32 : decode cX11_head 32 = .ok (.getfield 159, 3) := by decide +kernel
theorem dX11_head_35 : decode cX11_head 35 = .ok (.getfield 175, 3) := by decide +kernel
theorem dX11_head_38 : decode cX11_head 38 = .ok (.istore_n 2, 1) := by decide +kernel
theorem dX11_head_39 : decode cX11_head 39 = .ok (.aload_n 0, 1) := by decide +kernel
theorem dX11_head_40 : decode cX11_head 40 = .ok (.getfield 52, 3) := by decide +kernel
theorem dX11_head_43 : decode cX11_head 43 = .ok (.getfield 159, 3) := by decide +kernel
theorem dX11_head_46 : decode cX11_head 46 = .ok (.iload_n 1, 1) := by decide +kernel
theorem dX11_head_47 : decode cX11_head 47 = .ok (.putfield 175, 3) := by decide +kernel
theorem dX11_head_50 : decode cX11_head 50 = .ok (.iload_n 2, 1) := by decide +kernel
theorem dX11_head_51 : decode cX11_head 51 = .ok (.i2l, 1) := by decide +kernel
theorem dX11_head_52 : decode cX11_head 52 = .ok (.lreturn, 1) := by decide +kernel
theorem dX11_sailed_0 : decode cX11_sailed 0 = .ok (.aload_n 0, 1) := by decide +kernel
theorem dX11_sailed_1 : decode cX11_sailed 1 = .ok (.getfield 52, 3) := by decide +kernel
theorem dX11_sailed_4 : decode cX11_sailed 4 = .ok (.getfield 159, 3) := by decide +kernel
theorem dX11_sailed_7 : decode cX11_sailed 7 = .ok (.getfield 178, 3) := by decide +kernel
theorem dX11_sailed_10 : decode cX11_sailed 10 = .ok (.ifCond .ne 7, 3) := by decide +kernel
theorem dX11_sailed_13 : decode cX11_sailed 13 = .ok (.ldc2_w 148, 3) := by decide +kernel
theorem dX11_sailed_16 : decode cX11_sailed 16 = .ok (.lreturn, 1) := by decide +kernel
theorem dX11_sailed_17 : decode cX11_sailed 17 = .ok (.iload_n 1, 1) := by decide +kernel
theorem dX11_sailed_18 : decode cX11_sailed 18 = .ok (.iconst 1, 1) := by decide +kernel
theorem dX11_sailed_19 : decode cX11_sailed 19 = .ok (.bipush 100, 2) := by decide +kernel
theorem dX11_sailed_21 : decode cX11_sailed 21 = .ok (.invokestatic 60, 3) := by decide +kernel
theorem dX11_sailed_24 : decode cX11_sailed 24 = .ok (.ifCond .eq 22, 3) := by decide +kernel
theorem dX11_sailed_27 : decode cX11_sailed 27 = .ok (.iload_n 2, 1) := by decide +kernel
theorem dX11_sailed_28 : decode cX11_sailed 28 = .ok (.iconst 0, 1) := by decide +kernel
theorem dX11_sailed_29 : decode cX11_sailed 29 = .ok (.iconst 1, 1) := by decide +kernel
theorem dX11_sailed_30 : decode cX11_sailed 30 = .ok (.invokestatic 60, 3) := by decide +kernel
theorem dX11_sailed_33 : decode cX11_sailed 33 = .ok (.ifCond .eq 13, 3) := by decide +kernel
theorem dX11_sailed_36 : decode cX11_sailed 36 = .ok (.iload_n 3, 1) := by decide +kernel
theorem dX11_sailed_37 : decode cX11_sailed 37 = .ok (.iconst 1, 1) := by decide +kernel
theorem dX11_sailed_38 : decode cX11_sailed 38 = .ok (.ldc 181, 2) := by decide +kernel
theorem dX11_sailed_40 : decode cX11_sailed 40 = .ok (.invokestatic 60, 3) := by decide +kernel
theorem dX11_sailed_43 : decode cX11_sailed 43 = .ok (.ifCond .ne 7, 3) := by decide +kernel
theorem dX11_sailed_46 : decode cX11_sailed 46 = .ok (.ldc2_w 64, 3) := by decide +kernel
theorem dX11_sailed_49 : decode cX11_sailed 49 = .ok (.lreturn, 1) := by decide +kernel
theorem dX11_sailed_50 : decode cX11_sailed 50 = .ok (.iload_n 3, 1) := by decide +kernel
theorem dX11_sailed_51 : decode cX11_sailed 51 = .ok (.i2l, 1) := by decide +kernel
theorem dX11_sailed_52 : decode cX11_sailed 52 = .ok (.lstore 4, 2) := by decide +kernel
theorem dX11_sailed_54 : decode cX11_sailed 54 = .ok (.iconst 0, 1) := by decide +kernel
theorem dX11_sailed_55 : decode cX11_sailed 55 = .ok (.istore 6, 2) := by decide +kernel
theorem dX11_sailed_57 : decode cX11_sailed 57 = .ok (.iload 6, 2) := by decide +kernel
theorem dX11_sailed_59 : decode cX11_sailed 59 = .ok (.iload_n 1, 1) := by decide +kernel
theorem dX11_sailed_60 : decode cX11_sailed 60 = .ok (.if_icmp .ge 60, 3) := by decide +kernel
theorem dX11_sailed_63 : decode cX11_sailed 63 = .ok (.lload 4, 2) := by decide +kernel
theorem dX11_sailed_65 : decode cX11_sailed 65 = .ok (.ldc2_w 182, 3) := by decide +kernel
theorem dX11_sailed_68 : decode cX11_sailed 68 = .ok (.lmul, 1) := by decide +kernel
theorem dX11_sailed_69 : decode cX11_sailed 69 = .ok (.ldc2_w 184, 3) := by decide +kernel
theorem dX11_sailed_72 : decode cX11_sailed 72 = .ok (.lrem, 1) := by decide +kernel
theorem dX11_sailed_73 : decode cX11_sailed 73 = .ok (.lstore 4, 2) := by decide +kernel
theorem dX11_sailed_75 : decode cX11_sailed 75 = .ok (.aload_n 0, 1) := by decide +kernel
theorem dX11_sailed_76 : decode cX11_sailed 76 = .ok (.getfield 52, 3) := by decide +kernel
theorem dX11_sailed_79 : decode cX11_sailed 79 = .ok (.getfield 159, 3) := by decide +kernel
theorem dX11_sailed_82 : decode cX11_sailed 82 = .ok (.aload_n 0, 1) := by decide +kernel
theorem dX11_sailed_83 : decode cX11_sailed 83 = .ok (.getfield 52, 3) := by decide +kernel
theorem dX11_sailed_86 : decode cX11_sailed 86 = .ok (.getfield 150, 3) := by decide +kernel
theorem dX11_sailed_89 : decode cX11_sailed 89 = .ok (.aload_n 0, 1) := by decide +kernel
theorem dX11_sailed_90 : decode cX11_sailed 90 = .ok (.getfield 52, 3) := by decide +kernel
theorem dX11_sailed_93 : decode cX11_sailed 93 = .ok (.getfield 150, 3) := by decide +kernel
theorem dX11_sailed_96 : decode cX11_sailed 96 = .ok (.lload 4, 2) := by decide +kernel
theorem dX11_sailed_98 : decode cX11_sailed 98 = .ok (.invokevirtual 186, 3) := by decide +kernel
theorem dX11_sailed_101 : decode cX11_sailed 101 = .ok (.iload_n 2, 1) := by decide +kernel
theorem dX11_sailed_102 : decode cX11_sailed 102 = .ok (.iconst 1, 1) := by decide +kernel
theorem dX11_sailed_103 : decode cX11_sailed 103 = .ok (.if_icmp .ne 7, 3) := by decide +kernel
theorem dX11_sailed_106 : decode cX11_sailed 106 = .ok (.iconst 1, 1) := by decide +kernel
theorem dX11_sailed_107 : decode cX11_sailed 107 = .ok (.goto 4, 3) := by decide +kernel
theorem dX11_sailed_110 : decode cX11_sailed 110 = .ok (.iconst 0, 1) := by decide +kernel
theorem dX11_sailed_111 : decode cX11_sailed 111 = .ok (.invokevirtual 190, 3) := by decide +kernel
theorem dX11_sailed_114 : decode cX11_sailed 114 = .ok (.iinc 6 1, 3) := by decide +kernel
theorem dX11_sailed_117 : decode cX11_sailed 117 = .ok (.goto (-60), 3) := by decide +kernel
theorem dX11_sailed_120 : decode cX11_sailed 120 = .ok (.aload_n 0, 1) := by decide +kernel
theorem dX11_sailed_121 : decode cX11_sailed 121 = .ok (.getfield 52, 3) := by decide +kernel
theorem dX11_sailed_124 : decode cX11_sailed 124 = .ok (.getfield 159, 3) := by decide +kernel
theorem dX11_sailed_127 : decode cX11_sailed 127 = .ok (.getfield 194, 3) := by decide +kernel
theorem dX11_sailed_130 : decode cX11_sailed 130 = .ok (.i2l, 1) := by decide +kernel
theorem dX11_sailed_131 : decode cX11_sailed 131 = .ok (.lreturn, 1) := by decide +kernel
theorem dX11_blown_0 : decode cX11_blown 0 = .ok (.aload_n 0, 1) := by decide +kernel
theorem dX11_blown_1 : decode cX11_blown 1 = .ok (.getfield 52, 3) := by decide +kernel
theorem dX11_blown_4 : decode cX11_blown 4 = .ok (.getfield 159, 3) := by decide +kernel
theorem dX11_blown_7 : decode cX11_blown 7 = .ok (.getfield 178, 3) := by decide +kernel
theorem dX11_blown_10 : decode cX11_blown 10 = .ok (.ifCond .ne 7, 3) := by decide +kernel
theorem dX11_blown_13 : decode cX11_blown 13 = .ok (.ldc2_w 148, 3) := by decide +kernel
theorem dX11_blown_16 : decode cX11_blown 16 = .ok (.lreturn, 1) := by decide +kernel
theorem dX11_blown_17 : decode cX11_blown 17 = .ok (.iload_n 1, 1) := by decide +kernel
theorem dX11_blown_18 : decode cX11_blown 18 = .ok (.iconst 0, 1) := by decide +kernel
theorem dX11_blown_19 : decode cX11_blown 19 = .ok (.bipush 7, 2) := by decide +kernel
theorem dX11_blown_21 : decode cX11_blown 21 = .ok (.invokestatic 60, 3) := by decide +kernel
theorem dX11_blown_24 : decode cX11_blown 24 = .ok (.ifCond .eq 13, 3) := by decide +kernel
theorem dX11_blown_27 : decode cX11_blown 27 = .ok (.iload_n 3, 1) := by decide +kernel
theorem dX11_blown_28 : decode cX11_blown 28 = .ok (.iconst 1, 1) := by decide +kernel
theorem dX11_blown_29 : decode cX11_blown 29 = .ok (.bipush 40, 2) := by decide +kernel
theorem dX11_blown_31 : decode cX11_blown 31 = .ok (.invokestatic 60, 3) := by decide +kernel
theorem dX11_blown_34 : decode cX11_blown 34 = .ok (.ifCond .ne 7, 3) := by decide +kernel
theorem dX11_blown_37 : decode cX11_blown 37 = .ok (.ldc2_w 64, 3) := by decide +kernel
theorem dX11_blown_40 : decode cX11_blown 40 = .ok (.lreturn, 1) := by decide +kernel
theorem dX11_blown_41 : decode cX11_blown 41 = .ok (.aload_n 0, 1) := by decide +kernel
theorem dX11_blown_42 : decode cX11_blown 42 = .ok (.getfield 11, 3) := by decide +kernel
theorem dX11_blown_45 : decode cX11_blown 45 = .ok (.iload_n 1, 1) := by decide +kernel
theorem dX11_blown_46 : decode cX11_blown 46 = .ok (.aaload, 1) := by decide +kernel
theorem dX11_blown_47 : decode cX11_blown 47 = .ok (.astore 4, 2) := by decide +kernel
theorem dX11_blown_49 : decode cX11_blown 49 = .ok (.aload 4, 2) := by decide +kernel
theorem dX11_blown_51 : decode cX11_blown 51 = .ok (.invokevirtual 78, 3) := by decide +kernel
theorem dX11_blown_54 : decode cX11_blown 54 = .ok (.ifCond .eq 9, 3) := by decide +kernel
theorem dX11_blown_57 : decode cX11_blown 57 = .ok (.aload_n 0, 1) := by decide +kernel
theorem dX11_blown_58 : decode cX11_blown 58 = .ok (.iconst 1, 1) := by decide +kernel
theorem dX11_blown_59 : decode cX11_blown 59 = .ok (.invokevirtual 66, 3) := by decide +kernel
theorem dX11_blown_62 : decode cX11_blown 62 = .ok (.lreturn, 1) := by decide +kernel
theorem dX11_blown_63 : decode cX11_blown 63 = .ok (.aload 4, 2) := by decide +kernel
theorem dX11_blown_65 : decode cX11_blown 65 = .ok (.iload_n 2, 1) := by decide +kernel
theorem dX11_blown_66 : decode cX11_blown 66 = .ok (.iload_n 3, 1) := by decide +kernel
theorem dX11_blown_67 : decode cX11_blown 67 = .ok (.invokevirtual 82, 3) := by decide +kernel
theorem dX11_blown_70 : decode cX11_blown 70 = .ok (.ifCond .ne 9, 3) := by decide +kernel
theorem dX11_blown_73 : decode cX11_blown 73 = .ok (.aload_n 0, 1) := by decide +kernel
theorem dX11_blown_74 : decode cX11_blown 74 = .ok (.iconst 2, 1) := by decide +kernel
theorem dX11_blown_75 : decode cX11_blown 75 = .ok (.invokevirtual 66, 3) := by decide +kernel
theorem dX11_blown_78 : decode cX11_blown 78 = .ok (.lreturn, 1) := by decide +kernel
theorem dX11_blown_79 : decode cX11_blown 79 = .ok (.aload 4, 2) := by decide +kernel
theorem dX11_blown_81 : decode cX11_blown 81 = .ok (.iload_n 2, 1) := by decide +kernel
theorem dX11_blown_82 : decode cX11_blown 82 = .ok (.iload_n 3, 1) := by decide +kernel
theorem dX11_blown_83 : decode cX11_blown 83 = .ok (.aload_n 0, 1) := by decide +kernel
theorem dX11_blown_84 : decode cX11_blown 84 = .ok (.getfield 52, 3) := by decide +kernel
theorem dX11_blown_87 : decode cX11_blown 87 = .ok (.getfield 150, 3) := by decide +kernel
theorem dX11_blown_90 : decode cX11_blown 90 = .ok (.getfield 197, 3) := by decide +kernel
theorem dX11_blown_93 : decode cX11_blown 93 = .ok (.iconst 1, 1) := by decide +kernel
theorem dX11_blown_94 : decode cX11_blown 94 = .ok (.isub, 1) := by decide +kernel
theorem dX11_blown_95 : decode cX11_blown 95 = .ok (.invokevirtual 200, 3) := by decide +kernel
theorem dX11_blown_98 : decode cX11_blown 98 = .ok (.ifCond .ne 7, 3) := by decide +kernel
theorem dX11_blown_101 : decode cX11_blown 101 = .ok (.ldc2_w 64, 3) := by decide +kernel
theorem dX11_blown_104 : decode cX11_blown 104 = .ok (.lreturn, 1) := by decide +kernel
theorem dX11_blown_105 : decode cX11_blown 105 = .ok (.iload_n 2, 1) := by decide +kernel
theorem dX11_blown_106 : decode cX11_blown 106 = .ok (.istore 5, 2) := by decide +kernel
theorem dX11_blown_108 : decode cX11_blown 108 = .ok (.iload 5, 2) := by decide +kernel
theorem dX11_blown_110 : decode cX11_blown 110 = .ok (.iload_n 2, 1) := by decide +kernel
theorem dX11_blown_111 : decode cX11_blown 111 = .ok (.iload_n 3, 1) := by decide +kernel
theorem dX11_blown_112 : decode cX11_blown 112 = .ok (.iadd, 1) := by decide +kernel
theorem dX11_blown_113 : decode cX11_blown 113 = .ok (.if_icmp .ge 35, 3) := by decide +kernel
theorem dX11_blown_116 : decode cX11_blown 116 = .ok (.aload_n 0, 1) := by decide +kernel
theorem dX11_blown_117 : decode cX11_blown 117 = .ok (.getfield 52, 3) := by decide +kernel
theorem dX11_blown_120 : decode cX11_blown 120 = .ok (.getfield 159, 3) := by decide +kernel
theorem dX11_blown_123 : decode cX11_blown 123 = .ok (.aload_n 0, 1) := by decide +kernel
theorem dX11_blown_124 : decode cX11_blown 124 = .ok (.getfield 52, 3) := by decide +kernel
theorem dX11_blown_127 : decode cX11_blown 127 = .ok (.getfield 150, 3) := by decide +kernel
theorem dX11_blown_130 : decode cX11_blown 130 = .ok (.aload 4, 2) := by decide +kernel
theorem dX11_blown_132 : decode cX11_blown 132 = .ok (.getfield 94, 3) := by decide +kernel
theorem dX11_blown_135 : decode cX11_blown 135 = .ok (.iload 5, 2) := by decide +kernel
theorem dX11_blown_137 : decode cX11_blown 137 = .ok (.iaload, 1) := by decide +kernel
theorem dX11_blown_138 : decode cX11_blown 138 = .ok (.iconst 0, 1) := by decide +kernel
theorem dX11_blown_139 : decode cX11_blown 139 = .ok (.invokevirtual 190, 3) := by decide +kernel
theorem dX11_blown_142 : decode cX11_blown 142 = .ok (.iinc 5 1, 3) := by decide +kernel
theorem dX11_blown_145 : decode cX11_blown 145 = .ok (.goto (-37), 3) := by decide +kernel
theorem dX11_blown_148 : decode cX11_blown 148 = .ok (.aload_n 0, 1) := by decide +kernel
theorem dX11_blown_149 : decode cX11_blown 149 = .ok (.aload_n 0, 1) := by decide +kernel
theorem dX11_blown_150 : decode cX11_blown 150 = .ok (.getfield 52, 3) := by decide +kernel
theorem dX11_blown_153 : decode cX11_blown 153 = .ok (.getfield 159, 3) := by decide +kernel
theorem dX11_blown_156 : decode cX11_blown 156 = .ok (.getfield 194, 3) := by decide +kernel
theorem dX11_blown_159 : decode cX11_blown 159 = .ok (.i2l, 1) := by decide +kernel
theorem dX11_blown_160 : decode cX11_blown 160 = .ok (.invokevirtual 74, 3) := by decide +kernel
theorem dX11_blown_163 : decode cX11_blown 163 = .ok (.lreturn, 1) := by decide +kernel
theorem dX11_ship_0 : decode cX11_ship 0 = .ok (.aload_n 0, 1) := by decide +kernel
theorem dX11_ship_1 : decode cX11_ship 1 = .ok (.getfield 52, 3) := by decide +kernel
theorem dX11_ship_4 : decode cX11_ship 4 = .ok (.getfield 159, 3) := by decide +kernel
theorem dX11_ship_7 : decode cX11_ship 7 = .ok (.astore_n 2, 1) := by decide +kernel
theorem dX11_ship_8 : decode cX11_ship 8 = .ok (.aload_n 2, 1) := by decide +kernel
theorem dX11_ship_9 : decode cX11_ship 9 = .ok (.getfield 178, 3) := by decide +kernel
theorem dX11_ship_12 : decode cX11_ship 12 = .ok (.ifCond .ne 7, 3) := by decide +kernel
theorem dX11_ship_15 : decode cX11_ship 15 = .ok (.ldc2_w 148, 3) := by decide +kernel
theorem dX11_ship_18 : decode cX11_ship 18 = .ok (.lreturn, 1) := by decide +kernel
theorem dX11_ship_19 : decode cX11_ship 19 = .ok (.iload_n 1, 1) := by decide +kernel
theorem dX11_ship_20 : decode cX11_ship 20 = .ok (.tableswitch 106 0 6 #[44, 53, 62, 68, 74, 87, 100], 44) := by decide +kernel
theorem dX11_ship_64 : decode cX11_ship 64 = .ok (.aload_n 2, 1) := by decide +kernel
theorem dX11_ship_65 : decode cX11_ship 65 = .ok (.getfield 203, 3) := by decide +kernel
theorem dX11_ship_68 : decode cX11_ship 68 = .ok (.bipush 16, 2) := by decide +kernel
theorem dX11_ship_70 : decode cX11_ship 70 = .ok (.irem, 1) := by decide +kernel
theorem dX11_ship_71 : decode cX11_ship 71 = .ok (.i2l, 1) := by decide +kernel
theorem dX11_ship_72 : decode cX11_ship 72 = .ok (.lreturn, 1) := by decide +kernel
theorem dX11_ship_73 : decode cX11_ship 73 = .ok (.aload_n 2, 1) := by decide +kernel
theorem dX11_ship_74 : decode cX11_ship 74 = .ok (.getfield 203, 3) := by decide +kernel
theorem dX11_ship_77 : decode cX11_ship 77 = .ok (.bipush 16, 2) := by decide +kernel
theorem dX11_ship_79 : decode cX11_ship 79 = .ok (.idiv, 1) := by decide +kernel
theorem dX11_ship_80 : decode cX11_ship 80 = .ok (.i2l, 1) := by decide +kernel
theorem dX11_ship_81 : decode cX11_ship 81 = .ok (.lreturn, 1) := by decide +kernel
theorem dX11_ship_82 : decode cX11_ship 82 = .ok (.aload_n 2, 1) := by decide +kernel
theorem dX11_ship_83 : decode cX11_ship 83 = .ok (.getfield 206, 3) := by decide +kernel
theorem dX11_ship_86 : decode cX11_ship 86 = .ok (.i2l, 1) := by decide +kernel
theorem dX11_ship_87 : decode cX11_ship 87 = .ok (.lreturn, 1) := by decide +kernel
theorem dX11_ship_88 : decode cX11_ship 88 = .ok (.aload_n 2, 1) := by decide +kernel
theorem dX11_ship_89 : decode cX11_ship 89 = .ok (.getfield 194, 3) := by decide +kernel
theorem dX11_ship_92 : decode cX11_ship 92 = .ok (.i2l, 1) := by decide +kernel
theorem dX11_ship_93 : decode cX11_ship 93 = .ok (.lreturn, 1) := by decide +kernel
theorem dX11_ship_94 : decode cX11_ship 94 = .ok (.aload_n 2, 1) := by decide +kernel
theorem dX11_ship_95 : decode cX11_ship 95 = .ok (.getfield 209, 3) := by decide +kernel
theorem dX11_ship_98 : decode cX11_ship 98 = .ok (.ifCond .eq 7, 3) := by decide +kernel
theorem dX11_ship_101 : decode cX11_ship 101 = .ok (.lconst 1, 1) := by decide +kernel
theorem dX11_ship_102 : decode cX11_ship 102 = .ok (.goto 4, 3) := by decide +kernel
theorem dX11_ship_105 : decode cX11_ship 105 = .ok (.lconst 0, 1) := by decide +kernel
theorem dX11_ship_106 : decode cX11_ship 106 = .ok (.lreturn, 1) := by decide +kernel
theorem dX11_ship_107 : decode cX11_ship 107 = .ok (.aload_n 2, 1) := by decide +kernel
theorem dX11_ship_108 : decode cX11_ship 108 = .ok (.invokevirtual 212, 3) := by decide +kernel
theorem dX11_ship_111 : decode cX11_ship 111 = .ok (.ifCond .eq 7, 3) := by decide +kernel
theorem dX11_ship_114 : decode cX11_ship 114 = .ok (.lconst 1, 1) := by decide +kernel
theorem dX11_ship_115 : decode cX11_ship 115 = .ok (.goto 4, 3) := by decide +kernel
theorem dX11_ship_118 : decode cX11_ship 118 = .ok (.lconst 0, 1) := by decide +kernel
theorem dX11_ship_119 : decode cX11_ship 119 = .ok (.lreturn, 1) := by decide +kernel
theorem dX11_ship_120 : decode cX11_ship 120 = .ok (.aload_n 2, 1) := by decide +kernel
theorem dX11_ship_121 : decode cX11_ship 121 = .ok (.getfield 175, 3) := by decide +kernel
theorem dX11_ship_124 : decode cX11_ship 124 = .ok (.i2l, 1) := by decide +kernel
theorem dX11_ship_125 : decode cX11_ship 125 = .ok (.lreturn, 1) := by decide +kernel
theorem dX11_ship_126 : decode cX11_ship 126 = .ok (.ldc2_w 64, 3) := by decide +kernel
theorem dX11_ship_129 : decode cX11_ship 129 = .ok (.lreturn, 1) := by decide +kernel
theorem dX11_herself_0 : decode cX11_herself 0 = .ok (.aload_n 0, 1) := by decide +kernel
theorem dX11_herself_1 : decode cX11_herself 1 = .ok (.getfield 52, 3) := by decide +kernel
theorem dX11_herself_4 : decode cX11_herself 4 = .ok (.getfield 150, 3) := by decide +kernel
theorem dX11_herself_7 : decode cX11_herself 7 = .ok (.iload_n 1, 1) := by decide +kernel
theorem dX11_herself_8 : decode cX11_herself 8 = .ok (.invokevirtual 215, 3) := by decide +kernel
theorem dX11_herself_11 : decode cX11_herself 11 = .ok (.ifCond .eq 27, 3) := by decide +kernel
theorem dX11_herself_14 : decode cX11_herself 14 = .ok (.aload_n 0, 1) := by decide +kernel
theorem dX11_herself_15 : decode cX11_herself 15 = .ok (.getfield 52, 3) := by decide +kernel
theorem dX11_herself_18 : decode cX11_herself 18 = .ok (.getfield 150, 3) := by decide +kernel
theorem dX11_herself_21 : decode cX11_herself 21 = .ok (.iload_n 2, 1) := by decide +kernel
theorem dX11_herself_22 : decode cX11_herself 22 = .ok (.invokevirtual 218, 3) := by decide +kernel
theorem dX11_herself_25 : decode cX11_herself 25 = .ok (.ifCond .eq 13, 3) := by decide +kernel
theorem dX11_herself_28 : decode cX11_herself 28 = .ok (.iload_n 3, 1) := by decide +kernel
theorem dX11_herself_29 : decode cX11_herself 29 = .ok (.iconst 0, 1) := by decide +kernel
theorem dX11_herself_30 : decode cX11_herself 30 = .ok (.bipush 7, 2) := by decide +kernel
theorem dX11_herself_32 : decode cX11_herself 32 = .ok (.invokestatic 60, 3) := by decide +kernel
theorem dX11_herself_35 : decode cX11_herself 35 = .ok (.ifCond .ne 7, 3) := by decide +kernel
theorem dX11_herself_38 : decode cX11_herself 38 = .ok (.ldc2_w 64, 3) := by decide +kernel
theorem dX11_herself_41 : decode cX11_herself 41 = .ok (.lreturn, 1) := by decide +kernel
theorem dX11_herself_42 : decode cX11_herself 42 = .ok (.iload 4, 2) := by decide +kernel
theorem dX11_herself_44 : decode cX11_herself 44 = .ok (.iconst 0, 1) := by decide +kernel
theorem dX11_herself_45 : decode cX11_herself 45 = .ok (.bipush 8, 2) := by decide +kernel
theorem dX11_herself_47 : decode cX11_herself 47 = .ok (.invokestatic 60, 3) := by decide +kernel
theorem dX11_herself_50 : decode cX11_herself 50 = .ok (.ifCond .eq 13, 3) := by decide +kernel
theorem dX11_herself_53 : decode cX11_herself 53 = .ok (.iload 5, 2) := by decide +kernel
theorem dX11_herself_55 : decode cX11_herself 55 = .ok (.iconst 0, 1) := by decide +kernel
theorem dX11_herself_56 : decode cX11_herself 56 = .ok (.iconst 2, 1) := by decide +kernel
theorem dX11_herself_57 : decode cX11_herself 57 = .ok (.invokestatic 60, 3) := by decide +kernel
theorem dX11_herself_60 : decode cX11_herself 60 = .ok (.ifCond .ne 7, 3) := by decide +kernel
theorem dX11_herself_63 : decode cX11_herself 63 = .ok (.ldc2_w 64, 3) := by decide +kernel
theorem dX11_herself_66 : decode cX11_herself 66 = .ok (.lreturn, 1) := by decide +kernel
theorem dX11_herself_67 : decode cX11_herself 67 = .ok (.aload_n 0, 1) := by decide +kernel
theorem dX11_herself_68 : decode cX11_herself 68 = .ok (.getfield 40, 3) := by decide +kernel
theorem dX11_herself_71 : decode cX11_herself 71 = .ok (.aload_n 0, 1) := by decide +kernel
theorem dX11_herself_72 : decode cX11_herself 72 = .ok (.getfield 52, 3) := by decide +kernel
theorem dX11_herself_75 : decode cX11_herself 75 = .ok (.getfield 150, 3) := by decide +kernel
theorem dX11_herself_78 : decode cX11_herself 78 = .ok (.iload_n 1, 1) := by decide +kernel
theorem dX11_herself_79 : decode cX11_herself 79 = .ok (.iload_n 3, 1) := by decide +kernel
theorem dX11_herself_80 : decode cX11_herself 80 = .ok (.iload 4, 2) := by decide +kernel
theorem dX11_herself_82 : decode cX11_herself 82 = .ok (.invokevirtual 221, 3) := by decide +kernel
theorem dX11_herself_85 : decode cX11_herself 85 = .ok (.iload 5, 2) := by decide +kernel
theorem dX11_herself_87 : decode cX11_herself 87 = .ok (.iconst 2, 1) := by decide +kernel
theorem dX11_herself_88 : decode cX11_herself 88 = .ok (.if_icmp .ne 14, 3) := by decide +kernel
theorem dX11_herself_91 : decode cX11_herself 91 = .ok (.aload_n 0, 1) := by decide +kernel
theorem dX11_herself_92 : decode cX11_herself 92 = .ok (.getfield 40, 3) := by decide +kernel
theorem dX11_herself_95 : decode cX11_herself 95 = .ok (.getfield 225, 3) := by decide +kernel
theorem dX11_herself_98 : decode cX11_herself 98 = .ok (.iload_n 2, 1) := by decide +kernel
theorem dX11_herself_99 : decode cX11_herself 99 = .ok (.iaload, 1) := by decide +kernel
theorem dX11_herself_100 : decode cX11_herself 100 = .ok (.i2l, 1) := by decide +kernel
theorem dX11_herself_101 : decode cX11_herself 101 = .ok (.lreturn, 1) := by decide +kernel
theorem dX11_herself_102 : decode cX11_herself 102 = .ok (.aload_n 0, 1) := by decide +kernel
theorem dX11_herself_103 : decode cX11_herself 103 = .ok (.getfield 40, 3) := by decide +kernel
theorem dX11_herself_106 : decode cX11_herself 106 = .ok (.getfield 228, 3) := by decide +kernel
theorem dX11_herself_109 : decode cX11_herself 109 = .ok (.iload_n 2, 1) := by decide +kernel
theorem dX11_herself_110 : decode cX11_herself 110 = .ok (.laload, 1) := by decide +kernel
theorem dX11_herself_111 : decode cX11_herself 111 = .ok (.aload_n 0, 1) := by decide +kernel
theorem dX11_herself_112 : decode cX11_herself 112 = .ok (.getfield 52, 3) := by decide +kernel
theorem dX11_herself_115 : decode cX11_herself 115 = .ok (.getfield 150, 3) := by decide +kernel
theorem dX11_herself_118 : decode cX11_herself 118 = .ok (.getfield 232, 3) := by decide +kernel
theorem dX11_herself_121 : decode cX11_herself 121 = .ok (.i2l, 1) := by decide +kernel
theorem dX11_herself_122 : decode cX11_herself 122 = .ok (.iload 4, 2) := by decide +kernel
theorem dX11_herself_124 : decode cX11_herself 124 = .ok (.invokestatic 235, 3) := by decide +kernel
theorem dX11_herself_127 : decode cX11_herself 127 = .ok (.iload 5, 2) := by decide +kernel
theorem dX11_herself_129 : decode cX11_herself 129 = .ok (.invokestatic 239, 3) := by decide +kernel
theorem dX11_herself_132 : decode cX11_herself 132 = .ok (.lreturn, 1) := by decide +kernel
theorem dX11_could_0 : decode cX11_could 0 = .ok (.aload_n 0, 1) := by decide +kernel
theorem dX11_could_1 : decode cX11_could 1 = .ok (.getfield 52, 3) := by decide +kernel
theorem dX11_could_4 : decode cX11_could 4 = .ok (.getfield 150, 3) := by decide +kernel
theorem dX11_could_7 : decode cX11_could 7 = .ok (.iload_n 1, 1) := by decide +kernel
theorem dX11_could_8 : decode cX11_could 8 = .ok (.invokevirtual 215, 3) := by decide +kernel
theorem dX11_could_11 : decode cX11_could 11 = .ok (.ifCond .eq 17, 3) := by decide +kernel
theorem dX11_could_14 : decode cX11_could 14 = .ok (.aload_n 0, 1) := by decide +kernel
theorem dX11_could_15 : decode cX11_could 15 = .ok (.getfield 52, 3) := by decide +kernel
theorem dX11_could_18 : decode cX11_could 18 = .ok (.getfield 150, 3) := by decide +kernel
theorem dX11_could_21 : decode cX11_could 21 = .ok (.iload_n 2, 1) := by decide +kernel
theorem dX11_could_22 : decode cX11_could 22 = .ok (.invokevirtual 218, 3) := by decide +kernel
theorem dX11_could_25 : decode cX11_could 25 = .ok (.ifCond .ne 7, 3) := by decide +kernel
theorem dX11_could_28 : decode cX11_could 28 = .ok (.ldc2_w 64, 3) := by decide +kernel
theorem dX11_could_31 : decode cX11_could 31 = .ok (.lreturn, 1) := by decide +kernel
theorem dX11_could_32 : decode cX11_could 32 = .ok (.aload_n 0, 1) := by decide +kernel
theorem dX11_could_33 : decode cX11_could 33 = .ok (.getfield 40, 3) := by decide +kernel
theorem dX11_could_36 : decode cX11_could 36 = .ok (.aload_n 0, 1) := by decide +kernel
theorem dX11_could_37 : decode cX11_could 37 = .ok (.getfield 52, 3) := by decide +kernel
theorem dX11_could_40 : decode cX11_could 40 = .ok (.getfield 150, 3) := by decide +kernel
theorem dX11_could_43 : decode cX11_could 43 = .ok (.iload_n 1, 1) := by decide +kernel
theorem dX11_could_44 : decode cX11_could 44 = .ok (.iload_n 2, 1) := by decide +kernel
theorem dX11_could_45 : decode cX11_could 45 = .ok (.aload_n 0, 1) := by decide +kernel
theorem dX11_could_46 : decode cX11_could 46 = .ok (.getfield 52, 3) := by decide +kernel
theorem dX11_could_49 : decode cX11_could 49 = .ok (.getfield 159, 3) := by decide +kernel
theorem dX11_could_52 : decode cX11_could 52 = .ok (.getfield 175, 3) := by decide +kernel
theorem dX11_could_55 : decode cX11_could 55 = .ok (.invokevirtual 243, 3) := by decide +kernel
theorem dX11_could_58 : decode cX11_could 58 = .ok (.iconst 0, 1) := by decide +kernel
theorem dX11_could_59 : decode cX11_could 59 = .ok (.istore_n 3, 1) := by decide +kernel
theorem dX11_could_60 : decode cX11_could 60 = .ok (.iconst 0, 1) := by decide +kernel
theorem dX11_could_61 : decode cX11_could 61 = .ok (.istore 4, 2) := by decide +kernel
theorem dX11_could_63 : decode cX11_could 63 = .ok (.iload 4, 2) := by decide +kernel
theorem dX11_could_65 : decode cX11_could 65 = .ok (.bipush 8, 2) := by decide +kernel
theorem dX11_could_67 : decode cX11_could 67 = .ok (.if_icmp .gt 31, 3) := by decide +kernel
theorem dX11_could_70 : decode cX11_could 70 = .ok (.aload_n 0, 1) := by decide +kernel
theorem dX11_could_71 : decode cX11_could 71 = .ok (.getfield 40, 3) := by decide +kernel
theorem dX11_could_74 : decode cX11_could 74 = .ok (.getfield 246, 3) := by decide +kernel
theorem dX11_could_77 : decode cX11_could 77 = .ok (.iload 4, 2) := by decide +kernel
theorem dX11_could_79 : decode cX11_could 79 = .ok (.laload, 1) := by decide +kernel
theorem dX11_could_80 : decode cX11_could 80 = .ok (.lconst 0, 1) := by decide +kernel
theorem dX11_could_81 : decode cX11_could 81 = .ok (.lcmp, 1) := by decide +kernel
theorem dX11_could_82 : decode cX11_could 82 = .ok (.ifCond .le 10, 3) := by decide +kernel
theorem dX11_could_85 : decode cX11_could 85 = .ok (.iload_n 3, 1) := by decide +kernel
theorem dX11_could_86 : decode cX11_could 86 = .ok (.iconst 1, 1) := by decide +kernel
theorem dX11_could_87 : decode cX11_could 87 = .ok (.iload 4, 2) := by decide +kernel
theorem dX11_could_89 : decode cX11_could 89 = .ok (.ishl, 1) := by decide +kernel
theorem dX11_could_90 : decode cX11_could 90 = .ok (.ior, 1) := by decide +kernel
theorem dX11_could_91 : decode cX11_could 91 = .ok (.istore_n 3, 1) := by decide +kernel
theorem dX11_could_92 : decode cX11_could 92 = .ok (.iinc 4 1, 3) := by decide +kernel
theorem dX11_could_95 : decode cX11_could 95 = .ok (.goto (-32), 3) := by decide +kernel
theorem dX11_could_98 : decode cX11_could 98 = .ok (.iload_n 3, 1) := by decide +kernel
theorem dX11_could_99 : decode cX11_could 99 = .ok (.i2l, 1) := by decide +kernel
theorem dX11_could_100 : decode cX11_could 100 = .ok (.lreturn, 1) := by decide +kernel
theorem dX11_leftAt_0 : decode cX11_leftAt 0 = .ok (.iload_n 1, 1) := by decide +kernel
theorem dX11_leftAt_1 : decode cX11_leftAt 1 = .ok (.invokestatic 249, 3) := by decide +kernel
theorem dX11_leftAt_4 : decode cX11_leftAt 4 = .ok (.ifCond .eq 31, 3) := by decide +kernel
theorem dX11_leftAt_7 : decode cX11_leftAt 7 = .ok (.aload_n 0, 1) := by decide +kernel
theorem dX11_leftAt_8 : decode cX11_leftAt 8 = .ok (.getfield 52, 3) := by decide +kernel
theorem dX11_leftAt_11 : decode cX11_leftAt 11 = .ok (.getfield 150, 3) := by decide +kernel
theorem dX11_leftAt_14 : decode cX11_leftAt 14 = .ok (.iload_n 2, 1) := by decide +kernel
theorem dX11_leftAt_15 : decode cX11_leftAt 15 = .ok (.invokevirtual 215, 3) := by decide +kernel
theorem dX11_leftAt_18 : decode cX11_leftAt 18 = .ok (.ifCond .eq 17, 3) := by decide +kernel
theorem dX11_leftAt_21 : decode cX11_leftAt 21 = .ok (.aload_n 0, 1) := by decide +kernel
theorem dX11_leftAt_22 : decode cX11_leftAt 22 = .ok (.getfield 52, 3) := by decide +kernel
theorem dX11_leftAt_25 : decode cX11_leftAt 25 = .ok (.getfield 150, 3) := by decide +kernel
theorem dX11_leftAt_28 : decode cX11_leftAt 28 = .ok (.iload_n 3, 1) := by decide +kernel
theorem dX11_leftAt_29 : decode cX11_leftAt 29 = .ok (.invokevirtual 218, 3) := by decide +kernel
theorem dX11_leftAt_32 : decode cX11_leftAt 32 = .ok (.ifCond .ne 7, 3) := by decide +kernel
theorem dX11_leftAt_35 : decode cX11_leftAt 35 = .ok (.ldc2_w 64, 3) := by decide +kernel
theorem dX11_leftAt_38 : decode cX11_leftAt 38 = .ok (.lreturn, 1) := by decide +kernel
theorem dX11_leftAt_39 : decode cX11_leftAt 39 = .ok (.aload_n 0, 1) := by decide +kernel
theorem dX11_leftAt_40 : decode cX11_leftAt 40 = .ok (.getfield 40, 3) := by decide +kernel
theorem dX11_leftAt_43 : decode cX11_leftAt 43 = .ok (.aload_n 0, 1) := by decide +kernel
theorem dX11_leftAt_44 : decode cX11_leftAt 44 = .ok (.getfield 52, 3) := by decide +kernel
theorem dX11_leftAt_47 : decode cX11_leftAt 47 = .ok (.getfield 150, 3) := by decide +kernel
theorem dX11_leftAt_50 : decode cX11_leftAt 50 = .ok (.iload_n 2, 1) := by decide +kernel
theorem dX11_leftAt_51 : decode cX11_leftAt 51 = .ok (.iload_n 3, 1) := by decide +kernel
theorem dX11_leftAt_52 : decode cX11_leftAt 52 = .ok (.aload_n 0, 1) := by decide +kernel
theorem dX11_leftAt_53 : decode cX11_leftAt 53 = .ok (.getfield 52, 3) := by decide +kernel
theorem dX11_leftAt_56 : decode cX11_leftAt 56 = .ok (.getfield 159, 3) := by decide +kernel
theorem dX11_leftAt_59 : decode cX11_leftAt 59 = .ok (.getfield 175, 3) := by decide +kernel
theorem dX11_leftAt_62 : decode cX11_leftAt 62 = .ok (.invokevirtual 243, 3) := by decide +kernel
theorem dX11_leftAt_65 : decode cX11_leftAt 65 = .ok (.ldc 252, 2) := by decide +kernel
theorem dX11_leftAt_67 : decode cX11_leftAt 67 = .ok (.istore 4, 2) := by decide +kernel
theorem dX11_leftAt_69 : decode cX11_leftAt 69 = .ok (.lconst 0, 1) := by decide +kernel
theorem dX11_leftAt_70 : decode cX11_leftAt 70 = .ok (.lstore 5, 2) := by decide +kernel
theorem dX11_leftAt_72 : decode cX11_leftAt 72 = .ok (.iconst 0, 1) := by decide +kernel
theorem dX11_leftAt_73 : decode cX11_leftAt 73 = .ok (.istore 7, 2) := by decide +kernel
theorem dX11_leftAt_75 : decode cX11_leftAt 75 = .ok (.iload 7, 2) := by decide +kernel
theorem dX11_leftAt_77 : decode cX11_leftAt 77 = .ok (.bipush 8, 2) := by decide +kernel
theorem dX11_leftAt_79 : decode cX11_leftAt 79 = .ok (.if_icmp .gt 50, 3) := by decide +kernel
theorem dX11_leftAt_82 : decode cX11_leftAt 82 = .ok (.iload 7, 2) := by decide +kernel
theorem dX11_leftAt_84 : decode cX11_leftAt 84 = .ok (.iload_n 1, 1) := by decide +kernel
theorem dX11_leftAt_85 : decode cX11_leftAt 85 = .ok (.invokestatic 253, 3) := by decide +kernel
theorem dX11_leftAt_88 : decode cX11_leftAt 88 = .ok (.ifCond .eq 35, 3) := by decide +kernel
theorem dX11_leftAt_91 : decode cX11_leftAt 91 = .ok (.aload_n 0, 1) := by decide +kernel
theorem dX11_leftAt_92 : decode cX11_leftAt 92 = .ok (.getfield 40, 3) := by decide +kernel
theorem dX11_leftAt_95 : decode cX11_leftAt 95 = .ok (.getfield 246, 3) := by decide +kernel
theorem dX11_leftAt_98 : decode cX11_leftAt 98 = .ok (.iload 7, 2) := by decide +kernel
theorem dX11_leftAt_100 : decode cX11_leftAt 100 = .ok (.laload, 1) := by decide +kernel
theorem dX11_leftAt_101 : decode cX11_leftAt 101 = .ok (.lload 5, 2) := by decide +kernel
theorem dX11_leftAt_103 : decode cX11_leftAt 103 = .ok (.lcmp, 1) := by decide +kernel
theorem dX11_leftAt_104 : decode cX11_leftAt 104 = .ok (.ifCond .le 19, 3) := by decide +kernel
theorem dX11_leftAt_107 : decode cX11_leftAt 107 = .ok (.aload_n 0, 1) := by decide +kernel
theorem dX11_leftAt_108 : decode cX11_leftAt 108 = .ok (.getfield 40, 3) := by decide +kernel
theorem dX11_leftAt_111 : decode cX11_leftAt 111 = .ok (.getfield 246, 3) := by decide +kernel
theorem dX11_leftAt_114 : decode cX11_leftAt 114 = .ok (.iload 7, 2) := by decide +kernel
theorem dX11_leftAt_116 : decode cX11_leftAt 116 = .ok (.laload, 1) := by decide +kernel
theorem dX11_leftAt_117 : decode cX11_leftAt 117 = .ok (.lstore 5, 2) := by decide +kernel
theorem dX11_leftAt_119 : decode cX11_leftAt 119 = .ok (.iload 7, 2) := by decide +kernel
theorem dX11_leftAt_121 : decode cX11_leftAt 121 = .ok (.istore 4, 2) := by decide +kernel
theorem dX11_leftAt_123 : decode cX11_leftAt 123 = .ok (.iinc 7 1, 3) := by decide +kernel
theorem dX11_leftAt_126 : decode cX11_leftAt 126 = .ok (.goto (-51), 3) := by decide +kernel
theorem dX11_leftAt_129 : decode cX11_leftAt 129 = .ok (.iload 4, 2) := by decide +kernel
theorem dX11_leftAt_131 : decode cX11_leftAt 131 = .ok (.i2l, 1) := by decide +kernel
theorem dX11_leftAt_132 : decode cX11_leftAt 132 = .ok (.lreturn, 1) := by decide +kernel
theorem dX11_leftOdds_0 : decode cX11_leftOdds 0 = .ok (.iload_n 1, 1) := by decide +kernel
theorem dX11_leftOdds_1 : decode cX11_leftOdds 1 = .ok (.invokestatic 249, 3) := by decide +kernel
theorem dX11_leftOdds_4 : decode cX11_leftOdds 4 = .ok (.ifCond .eq 31, 3) := by decide +kernel
theorem dX11_leftOdds_7 : decode cX11_leftOdds 7 = .ok (.aload_n 0, 1) := by decide +kernel
theorem dX11_leftOdds_8 : decode cX11_leftOdds 8 = .ok (.getfield 52, 3) := by decide +kernel
theorem dX11_leftOdds_11 : decode cX11_leftOdds 11 = .ok (.getfield 150, 3) := by decide +kernel
theorem dX11_leftOdds_14 : decode cX11_leftOdds 14 = .ok (.iload_n 2, 1) := by decide +kernel
theorem dX11_leftOdds_15 : decode cX11_leftOdds 15 = .ok (.invokevirtual 215, 3) := by decide +kernel
theorem dX11_leftOdds_18 : decode cX11_leftOdds 18 = .ok (.ifCond .eq 17, 3) := by decide +kernel
theorem dX11_leftOdds_21 : decode cX11_leftOdds 21 = .ok (.aload_n 0, 1) := by decide +kernel
theorem dX11_leftOdds_22 : decode cX11_leftOdds 22 = .ok (.getfield 52, 3) := by decide +kernel
theorem dX11_leftOdds_25 : decode cX11_leftOdds 25 = .ok (.getfield 150, 3) := by decide +kernel
theorem dX11_leftOdds_28 : decode cX11_leftOdds 28 = .ok (.iload_n 3, 1) := by decide +kernel
theorem dX11_leftOdds_29 : decode cX11_leftOdds 29 = .ok (.invokevirtual 218, 3) := by decide +kernel
theorem dX11_leftOdds_32 : decode cX11_leftOdds 32 = .ok (.ifCond .ne 7, 3) := by decide +kernel
theorem dX11_leftOdds_35 : decode cX11_leftOdds 35 = .ok (.ldc2_w 64, 3) := by decide +kernel
theorem dX11_leftOdds_38 : decode cX11_leftOdds 38 = .ok (.lreturn, 1) := by decide +kernel
theorem dX11_leftOdds_39 : decode cX11_leftOdds 39 = .ok (.iload 4, 2) := by decide +kernel
theorem dX11_leftOdds_41 : decode cX11_leftOdds 41 = .ok (.iconst 0, 1) := by decide +kernel
theorem dX11_leftOdds_42 : decode cX11_leftOdds 42 = .ok (.bipush 8, 2) := by decide +kernel
theorem dX11_leftOdds_44 : decode cX11_leftOdds 44 = .ok (.invokestatic 60, 3) := by decide +kernel
theorem dX11_leftOdds_47 : decode cX11_leftOdds 47 = .ok (.ifCond .eq 22, 3) := by decide +kernel
theorem dX11_leftOdds_50 : decode cX11_leftOdds 50 = .ok (.iload 4, 2) := by decide +kernel
theorem dX11_leftOdds_52 : decode cX11_leftOdds 52 = .ok (.iload_n 1, 1) := by decide +kernel
theorem dX11_leftOdds_53 : decode cX11_leftOdds 53 = .ok (.invokestatic 253, 3) := by decide +kernel
theorem dX11_leftOdds_56 : decode cX11_leftOdds 56 = .ok (.ifCond .eq 13, 3) := by decide +kernel
theorem dX11_leftOdds_59 : decode cX11_leftOdds 59 = .ok (.iload 5, 2) := by decide +kernel
theorem dX11_leftOdds_61 : decode cX11_leftOdds 61 = .ok (.iconst 0, 1) := by decide +kernel
theorem dX11_leftOdds_62 : decode cX11_leftOdds 62 = .ok (.iconst 1, 1) := by decide +kernel
theorem dX11_leftOdds_63 : decode cX11_leftOdds 63 = .ok (.invokestatic 60, 3) := by decide +kernel
theorem dX11_leftOdds_66 : decode cX11_leftOdds 66 = .ok (.ifCond .ne 7, 3) := by decide +kernel
theorem dX11_leftOdds_69 : decode cX11_leftOdds 69 = .ok (.ldc2_w 64, 3) := by decide +kernel
theorem dX11_leftOdds_72 : decode cX11_leftOdds 72 = .ok (.lreturn, 1) := by decide +kernel
theorem dX11_leftOdds_73 : decode cX11_leftOdds 73 = .ok (.aload_n 0, 1) := by decide +kernel
theorem dX11_leftOdds_74 : decode cX11_leftOdds 74 = .ok (.getfield 40, 3) := by decide +kernel
theorem dX11_leftOdds_77 : decode cX11_leftOdds 77 = .ok (.aload_n 0, 1) := by decide +kernel
theorem dX11_leftOdds_78 : decode cX11_leftOdds 78 = .ok (.getfield 52, 3) := by decide +kernel
theorem dX11_leftOdds_81 : decode cX11_leftOdds 81 = .ok (.getfield 150, 3) := by decide +kernel
theorem dX11_leftOdds_84 : decode cX11_leftOdds 84 = .ok (.iload_n 2, 1) := by decide +kernel
theorem dX11_leftOdds_85 : decode cX11_leftOdds 85 = .ok (.iload_n 3, 1) := by decide +kernel
theorem dX11_leftOdds_86 : decode cX11_leftOdds 86 = .ok (.aload_n 0, 1) := by decide +kernel
theorem dX11_leftOdds_87 : decode cX11_leftOdds 87 = .ok (.getfield 52, 3) := by decide +kernel
theorem dX11_leftOdds_90 : decode cX11_leftOdds 90 = .ok (.getfield 159, 3) := by decide +kernel
theorem dX11_leftOdds_93 : decode cX11_leftOdds 93 = .ok (.getfield 175, 3) := by decide +kernel
theorem dX11_leftOdds_96 : decode cX11_leftOdds 96 = .ok (.invokevirtual 243, 3) := by decide +kernel
theorem dX11_leftOdds_99 : decode cX11_leftOdds 99 = .ok (.lconst 0, 1) := by decide +kernel
theorem dX11_leftOdds_100 : decode cX11_leftOdds 100 = .ok (.lstore 6, 2) := by decide +kernel
theorem dX11_leftOdds_102 : decode cX11_leftOdds 102 = .ok (.iconst 0, 1) := by decide +kernel
theorem dX11_leftOdds_103 : decode cX11_leftOdds 103 = .ok (.istore 8, 2) := by decide +kernel
theorem dX11_leftOdds_105 : decode cX11_leftOdds 105 = .ok (.iload 8, 2) := by decide +kernel
theorem dX11_leftOdds_107 : decode cX11_leftOdds 107 = .ok (.bipush 8, 2) := by decide +kernel
theorem dX11_leftOdds_109 : decode cX11_leftOdds 109 = .ok (.if_icmp .gt 33, 3) := by decide +kernel
theorem dX11_leftOdds_112 : decode cX11_leftOdds 112 = .ok (.iload 8, 2) := by decide +kernel
theorem dX11_leftOdds_114 : decode cX11_leftOdds 114 = .ok (.iload_n 1, 1) := by decide +kernel
theorem dX11_leftOdds_115 : decode cX11_leftOdds 115 = .ok (.invokestatic 253, 3) := by decide +kernel
theorem dX11_leftOdds_118 : decode cX11_leftOdds 118 = .ok (.ifCond .eq 18, 3) := by decide +kernel
theorem dX11_leftOdds_121 : decode cX11_leftOdds 121 = .ok (.lload 6, 2) := by decide +kernel
theorem dX11_leftOdds_123 : decode cX11_leftOdds 123 = .ok (.aload_n 0, 1) := by decide +kernel
theorem dX11_leftOdds_124 : decode cX11_leftOdds 124 = .ok (.getfield 40, 3) := by decide +kernel
theorem dX11_leftOdds_127 : decode cX11_leftOdds 127 = .ok (.getfield 246, 3) := by decide +kernel
theorem dX11_leftOdds_130 : decode cX11_leftOdds 130 = .ok (.iload 8, 2) := by decide +kernel
theorem dX11_leftOdds_132 : decode cX11_leftOdds 132 = .ok (.laload, 1) := by decide +kernel
theorem dX11_leftOdds_133 : decode cX11_leftOdds 133 = .ok (.ladd, 1) := by decide +kernel
theorem dX11_leftOdds_134 : decode cX11_leftOdds 134 = .ok (.lstore 6, 2) := by decide +kernel
theorem dX11_leftOdds_136 : decode cX11_leftOdds 136 = .ok (.iinc 8 1, 3) := by decide +kernel
theorem dX11_leftOdds_139 : decode cX11_leftOdds 139 = .ok (.goto (-34), 3) := by decide +kernel
theorem dX11_leftOdds_142 : decode cX11_leftOdds 142 = .ok (.lload 6, 2) := by decide +kernel
theorem dX11_leftOdds_144 : decode cX11_leftOdds 144 = .ok (.lconst 0, 1) := by decide +kernel
theorem dX11_leftOdds_145 : decode cX11_leftOdds 145 = .ok (.lcmp, 1) := by decide +kernel
theorem dX11_leftOdds_146 : decode cX11_leftOdds 146 = .ok (.ifCond .ne 9, 3) := by decide +kernel
theorem dX11_leftOdds_149 : decode cX11_leftOdds 149 = .ok (.ldc2_w 256, 3) := by decide +kernel
theorem dX11_leftOdds_152 : decode cX11_leftOdds 152 = .ok (.goto 20, 3) := by decide +kernel
theorem dX11_leftOdds_155 : decode cX11_leftOdds 155 = .ok (.aload_n 0, 1) := by decide +kernel
theorem dX11_leftOdds_156 : decode cX11_leftOdds 156 = .ok (.getfield 40, 3) := by decide +kernel
theorem dX11_leftOdds_159 : decode cX11_leftOdds 159 = .ok (.getfield 246, 3) := by decide +kernel
theorem dX11_leftOdds_162 : decode cX11_leftOdds 162 = .ok (.iload 4, 2) := by decide +kernel
theorem dX11_leftOdds_164 : decode cX11_leftOdds 164 = .ok (.laload, 1) := by decide +kernel
theorem dX11_leftOdds_165 : decode cX11_leftOdds 165 = .ok (.lload 6, 2) := by decide +kernel
theorem dX11_leftOdds_167 : decode cX11_leftOdds 167 = .ok (.iload 5, 2) := by decide +kernel
theorem dX11_leftOdds_169 : decode cX11_leftOdds 169 = .ok (.invokestatic 239, 3) := by decide +kernel
theorem dX11_leftOdds_172 : decode cX11_leftOdds 172 = .ok (.lreturn, 1) := by decide +kernel
theorem dX11_boat_0 : decode cX11_boat 0 = .ok (.aload_n 0, 1) := by decide +kernel
theorem dX11_boat_1 : decode cX11_boat 1 = .ok (.getfield 52, 3) := by decide +kernel
theorem dX11_boat_4 : decode cX11_boat 4 = .ok (.getfield 150, 3) := by decide +kernel
theorem dX11_boat_7 : decode cX11_boat 7 = .ok (.iload_n 1, 1) := by decide +kernel
theorem dX11_boat_8 : decode cX11_boat 8 = .ok (.invokevirtual 215, 3) := by decide +kernel
theorem dX11_boat_11 : decode cX11_boat 11 = .ok (.ifCond .eq 23, 3) := by decide +kernel
theorem dX11_boat_14 : decode cX11_boat 14 = .ok (.iload_n 2, 1) := by decide +kernel
theorem dX11_boat_15 : decode cX11_boat 15 = .ok (.iconst 0, 1) := by decide +kernel
theorem dX11_boat_16 : decode cX11_boat 16 = .ok (.bipush 7, 2) := by decide +kernel
theorem dX11_boat_18 : decode cX11_boat 18 = .ok (.invokestatic 60, 3) := by decide +kernel
theorem dX11_boat_21 : decode cX11_boat 21 = .ok (.ifCond .eq 13, 3) := by decide +kernel
theorem dX11_boat_24 : decode cX11_boat 24 = .ok (.iload_n 3, 1) := by decide +kernel
theorem dX11_boat_25 : decode cX11_boat 25 = .ok (.iconst 0, 1) := by decide +kernel
theorem dX11_boat_26 : decode cX11_boat 26 = .ok (.bipush 8, 2) := by decide +kernel
theorem dX11_boat_28 : decode cX11_boat 28 = .ok (.invokestatic 60, 3) := by decide +kernel
theorem dX11_boat_31 : decode cX11_boat 31 = .ok (.ifCond .ne 7, 3) := by decide +kernel
theorem dX11_boat_34 : decode cX11_boat 34 = .ok (.ldc2_w 64, 3) := by decide +kernel
theorem dX11_boat_37 : decode cX11_boat 37 = .ok (.lreturn, 1) := by decide +kernel
theorem dX11_boat_38 : decode cX11_boat 38 = .ok (.aload_n 0, 1) := by decide +kernel
theorem dX11_boat_39 : decode cX11_boat 39 = .ok (.getfield 40, 3) := by decide +kernel
theorem dX11_boat_42 : decode cX11_boat 42 = .ok (.aload_n 0, 1) := by decide +kernel
theorem dX11_boat_43 : decode cX11_boat 43 = .ok (.getfield 52, 3) := by decide +kernel
theorem dX11_boat_46 : decode cX11_boat 46 = .ok (.getfield 150, 3) := by decide +kernel
theorem dX11_boat_49 : decode cX11_boat 49 = .ok (.iload_n 1, 1) := by decide +kernel
theorem dX11_boat_50 : decode cX11_boat 50 = .ok (.iload_n 2, 1) := by decide +kernel
theorem dX11_boat_51 : decode cX11_boat 51 = .ok (.iload_n 3, 1) := by decide +kernel
theorem dX11_boat_52 : decode cX11_boat 52 = .ok (.invokevirtual 221, 3) := by decide +kernel
theorem dX11_boat_55 : decode cX11_boat 55 = .ok (.aload_n 0, 1) := by decide +kernel
theorem dX11_boat_56 : decode cX11_boat 56 = .ok (.getfield 40, 3) := by decide +kernel
theorem dX11_boat_59 : decode cX11_boat 59 = .ok (.invokevirtual 258, 3) := by decide +kernel
theorem dX11_boat_62 : decode cX11_boat 62 = .ok (.i2l, 1) := by decide +kernel
theorem dX11_boat_63 : decode cX11_boat 63 = .ok (.lreturn, 1) := by decide +kernel
theorem dX11_thought_0 : decode cX11_thought 0 = .ok (.iload_n 1, 1) := by decide +kernel
theorem dX11_thought_1 : decode cX11_thought 1 = .ok (.sipush (-999), 3) := by decide +kernel
theorem dX11_thought_4 : decode cX11_thought 4 = .ok (.sipush 999, 3) := by decide +kernel
theorem dX11_thought_7 : decode cX11_thought 7 = .ok (.invokestatic 60, 3) := by decide +kernel
theorem dX11_thought_10 : decode cX11_thought 10 = .ok (.ifCond .eq 24, 3) := by decide +kernel
theorem dX11_thought_13 : decode cX11_thought 13 = .ok (.iload_n 2, 1) := by decide +kernel
theorem dX11_thought_14 : decode cX11_thought 14 = .ok (.bipush (-99), 2) := by decide +kernel
theorem dX11_thought_16 : decode cX11_thought 16 = .ok (.bipush 99, 2) := by decide +kernel
theorem dX11_thought_18 : decode cX11_thought 18 = .ok (.invokestatic 60, 3) := by decide +kernel
theorem dX11_thought_21 : decode cX11_thought 21 = .ok (.ifCond .eq 13, 3) := by decide +kernel
theorem dX11_thought_24 : decode cX11_thought 24 = .ok (.iload_n 3, 1) := by decide +kernel
theorem dX11_thought_25 : decode cX11_thought 25 = .ok (.iconst 1, 1) := by decide +kernel
theorem dX11_thought_26 : decode cX11_thought 26 = .ok (.bipush 60, 2) := by decide +kernel
theorem dX11_thought_28 : decode cX11_thought 28 = .ok (.invokestatic 60, 3) := by decide +kernel
theorem dX11_thought_31 : decode cX11_thought 31 = .ok (.ifCond .ne 7, 3) := by decide +kernel
theorem dX11_thought_34 : decode cX11_thought 34 = .ok (.ldc2_w 64, 3) := by decide +kernel
theorem dX11_thought_37 : decode cX11_thought 37 = .ok (.lreturn, 1) := by decide +kernel
theorem dX11_thought_38 : decode cX11_thought 38 = .ok (.iload_n 1, 1) := by decide +kernel
theorem dX11_thought_39 : decode cX11_thought 39 = .ok (.iload_n 2, 1) := by decide +kernel
theorem dX11_thought_40 : decode cX11_thought 40 = .ok (.iload_n 3, 1) := by decide +kernel
theorem dX11_thought_41 : decode cX11_thought 41 = .ok (.idiv, 1) := by decide +kernel
theorem dX11_thought_42 : decode cX11_thought 42 = .ok (.iadd, 1) := by decide +kernel
theorem dX11_thought_43 : decode cX11_thought 43 = .ok (.i2l, 1) := by decide +kernel
theorem dX11_thought_44 : decode cX11_thought 44 = .ok (.lreturn, 1) := by decide +kernel
theorem dX11_seemed_0 : decode cX11_seemed 0 = .ok (.aload_n 0, 1) := by decide +kernel
theorem dX11_seemed_1 : decode cX11_seemed 1 = .ok (.getfield 52, 3) := by decide +kernel
theorem dX11_seemed_4 : decode cX11_seemed 4 = .ok (.getfield 144, 3) := by decide +kernel
theorem dX11_seemed_7 : decode cX11_seemed 7 = .ok (.ifCond .ne 7, 3) := by decide +kernel
theorem dX11_seemed_10 : decode cX11_seemed 10 = .ok (.ldc2_w 148, 3) := by decide +kernel
theorem dX11_seemed_13 : decode cX11_seemed 13 = .ok (.lreturn, 1) := by decide +kernel
theorem dX11_seemed_14 : decode cX11_seemed 14 = .ok (.iload_n 1, 1) := by decide +kernel
theorem dX11_seemed_15 : decode cX11_seemed 15 = .ok (.iload_n 2, 1) := by decide +kernel
theorem dX11_seemed_16 : decode cX11_seemed 16 = .ok (.invokestatic 262, 3) := by decide +kernel
theorem dX11_seemed_19 : decode cX11_seemed 19 = .ok (.ifCond .eq 12, 3) := by decide +kernel
theorem dX11_seemed_22 : decode cX11_seemed 22 = .ok (.iload_n 3, 1) := by decide +kernel
theorem dX11_seemed_23 : decode cX11_seemed 23 = .ok (.iconst 0, 1) := by decide +kernel
theorem dX11_seemed_24 : decode cX11_seemed 24 = .ok (.iconst 1, 1) := by decide +kernel
theorem dX11_seemed_25 : decode cX11_seemed 25 = .ok (.invokestatic 60, 3) := by decide +kernel
theorem dX11_seemed_28 : decode cX11_seemed 28 = .ok (.ifCond .ne 7, 3) := by decide +kernel
theorem dX11_seemed_31 : decode cX11_seemed 31 = .ok (.ldc2_w 64, 3) := by decide +kernel
theorem dX11_seemed_34 : decode cX11_seemed 34 = .ok (.lreturn, 1) := by decide +kernel
theorem dX11_seemed_35 : decode cX11_seemed 35 = .ok (.aload_n 0, 1) := by decide +kernel
theorem dX11_seemed_36 : decode cX11_seemed 36 = .ok (.getfield 52, 3) := by decide +kernel
theorem dX11_seemed_39 : decode cX11_seemed 39 = .ok (.getfield 159, 3) := by decide +kernel
theorem dX11_seemed_42 : decode cX11_seemed 42 = .ok (.iload_n 1, 1) := by decide +kernel
theorem dX11_seemed_43 : decode cX11_seemed 43 = .ok (.iload_n 2, 1) := by decide +kernel
theorem dX11_seemed_44 : decode cX11_seemed 44 = .ok (.iload_n 3, 1) := by decide +kernel
theorem dX11_seemed_45 : decode cX11_seemed 45 = .ok (.invokevirtual 265, 3) := by decide +kernel
theorem dX11_seemed_48 : decode cX11_seemed 48 = .ok (.i2l, 1) := by decide +kernel
theorem dX11_seemed_49 : decode cX11_seemed 49 = .ok (.lreturn, 1) := by decide +kernel
theorem dX11_deep_0 : decode cX11_deep 0 = .ok (.aload_n 0, 1) := by decide +kernel
theorem dX11_deep_1 : decode cX11_deep 1 = .ok (.getfield 52, 3) := by decide +kernel
theorem dX11_deep_4 : decode cX11_deep 4 = .ok (.getfield 144, 3) := by decide +kernel
theorem dX11_deep_7 : decode cX11_deep 7 = .ok (.ifCond .ne 7, 3) := by decide +kernel
theorem dX11_deep_10 : decode cX11_deep 10 = .ok (.ldc2_w 148, 3) := by decide +kernel
theorem dX11_deep_13 : decode cX11_deep 13 = .ok (.lreturn, 1) := by decide +kernel
theorem dX11_deep_14 : decode cX11_deep 14 = .ok (.iload_n 1, 1) := by decide +kernel
theorem dX11_deep_15 : decode cX11_deep 15 = .ok (.iconst 0, 1) := by decide +kernel
theorem dX11_deep_16 : decode cX11_deep 16 = .ok (.sipush 200, 3) := by decide +kernel
theorem dX11_deep_19 : decode cX11_deep 19 = .ok (.invokestatic 60, 3) := by decide +kernel
theorem dX11_deep_22 : decode cX11_deep 22 = .ok (.ifCond .ne 7, 3) := by decide +kernel
theorem dX11_deep_25 : decode cX11_deep 25 = .ok (.ldc2_w 64, 3) := by decide +kernel
theorem dX11_deep_28 : decode cX11_deep 28 = .ok (.lreturn, 1) := by decide +kernel
theorem dX11_deep_29 : decode cX11_deep 29 = .ok (.aload_n 0, 1) := by decide +kernel
theorem dX11_deep_30 : decode cX11_deep 30 = .ok (.getfield 52, 3) := by decide +kernel
theorem dX11_deep_33 : decode cX11_deep 33 = .ok (.getfield 159, 3) := by decide +kernel
theorem dX11_deep_36 : decode cX11_deep 36 = .ok (.iload_n 1, 1) := by decide +kernel
theorem dX11_deep_37 : decode cX11_deep 37 = .ok (.invokevirtual 269, 3) := by decide +kernel
theorem dX11_deep_40 : decode cX11_deep 40 = .ok (.i2l, 1) := by decide +kernel
theorem dX11_deep_41 : decode cX11_deep 41 = .ok (.lreturn, 1) := by decide +kernel
theorem dX11_was_0 : decode cX11_was 0 = .ok (.aload_n 0, 1) := by decide +kernel
theorem dX11_was_1 : decode cX11_was 1 = .ok (.getfield 52, 3) := by decide +kernel
theorem dX11_was_4 : decode cX11_was 4 = .ok (.getfield 144, 3) := by decide +kernel
theorem dX11_was_7 : decode cX11_was 7 = .ok (.ifCond .ne 7, 3) := by decide +kernel
theorem dX11_was_10 : decode cX11_was 10 = .ok (.ldc2_w 148, 3) := by decide +kernel
theorem dX11_was_13 : decode cX11_was 13 = .ok (.lreturn, 1) := by decide +kernel
theorem dX11_was_14 : decode cX11_was 14 = .ok (.iload_n 1, 1) := by decide +kernel
theorem dX11_was_15 : decode cX11_was 15 = .ok (.iload_n 2, 1) := by decide +kernel
theorem dX11_was_16 : decode cX11_was 16 = .ok (.invokestatic 262, 3) := by decide +kernel
theorem dX11_was_19 : decode cX11_was 19 = .ok (.ifCond .eq 23, 3) := by decide +kernel
theorem dX11_was_22 : decode cX11_was 22 = .ok (.iload_n 3, 1) := by decide +kernel
theorem dX11_was_23 : decode cX11_was 23 = .ok (.iconst 0, 1) := by decide +kernel
theorem dX11_was_24 : decode cX11_was 24 = .ok (.bipush 99, 2) := by decide +kernel
theorem dX11_was_26 : decode cX11_was 26 = .ok (.invokestatic 60, 3) := by decide +kernel
theorem dX11_was_29 : decode cX11_was 29 = .ok (.ifCond .eq 13, 3) := by decide +kernel
theorem dX11_was_32 : decode cX11_was 32 = .ok (.iload 4, 2) := by decide +kernel
theorem dX11_was_34 : decode cX11_was 34 = .ok (.iconst 0, 1) := by decide +kernel
theorem dX11_was_35 : decode cX11_was 35 = .ok (.iconst 1, 1) := by decide +kernel
theorem dX11_was_36 : decode cX11_was 36 = .ok (.invokestatic 60, 3) := by decide +kernel
theorem dX11_was_39 : decode cX11_was 39 = .ok (.ifCond .ne 7, 3) := by decide +kernel
theorem dX11_was_42 : decode cX11_was 42 = .ok (.ldc2_w 64, 3) := by decide +kernel
theorem dX11_was_45 : decode cX11_was 45 = .ok (.lreturn, 1) := by decide +kernel
theorem dX11_was_46 : decode cX11_was 46 = .ok (.iconst 0, 1) := by decide +kernel
theorem dX11_was_47 : decode cX11_was 47 = .ok (.aload_n 0, 1) := by decide +kernel
theorem dX11_was_48 : decode cX11_was 48 = .ok (.getfield 52, 3) := by decide +kernel
theorem dX11_was_51 : decode cX11_was 51 = .ok (.getfield 159, 3) := by decide +kernel
theorem dX11_was_54 : decode cX11_was 54 = .ok (.iload_n 1, 1) := by decide +kernel
theorem dX11_was_55 : decode cX11_was 55 = .ok (.iload_n 2, 1) := by decide +kernel
theorem dX11_was_56 : decode cX11_was 56 = .ok (.iload 4, 2) := by decide +kernel
theorem dX11_was_58 : decode cX11_was 58 = .ok (.invokevirtual 265, 3) := by decide +kernel
theorem dX11_was_61 : decode cX11_was 61 = .ok (.aload_n 0, 1) := by decide +kernel
theorem dX11_was_62 : decode cX11_was 62 = .ok (.getfield 52, 3) := by decide +kernel
theorem dX11_was_65 : decode cX11_was 65 = .ok (.getfield 159, 3) := by decide +kernel
theorem dX11_was_68 : decode cX11_was 68 = .ok (.getfield 273, 3) := by decide +kernel
theorem dX11_was_71 : decode cX11_was 71 = .ok (.iload_n 3, 1) := by decide +kernel
theorem dX11_was_72 : decode cX11_was 72 = .ok (.imul, 1) := by decide +kernel
theorem dX11_was_73 : decode cX11_was 73 = .ok (.isub, 1) := by decide +kernel
theorem dX11_was_74 : decode cX11_was 74 = .ok (.invokestatic 276, 3) := by decide +kernel
theorem dX11_was_77 : decode cX11_was 77 = .ok (.i2l, 1) := by decide +kernel
theorem dX11_was_78 : decode cX11_was 78 = .ok (.lreturn, 1) := by decide +kernel
theorem dX11_bang_0 : decode cX11_bang 0 = .ok (.iload_n 1, 1) := by decide +kernel
theorem dX11_bang_1 : decode cX11_bang 1 = .ok (.iconst 0, 1) := by decide +kernel
theorem dX11_bang_2 : decode cX11_bang 2 = .ok (.bipush 99, 2) := by decide +kernel
theorem dX11_bang_4 : decode cX11_bang 4 = .ok (.invokestatic 60, 3) := by decide +kernel
theorem dX11_bang_7 : decode cX11_bang 7 = .ok (.ifCond .eq 24, 3) := by decide +kernel
theorem dX11_bang_10 : decode cX11_bang 10 = .ok (.iload_n 2, 1) := by decide +kernel
theorem dX11_bang_11 : decode cX11_bang 11 = .ok (.iconst 0, 1) := by decide +kernel
theorem dX11_bang_12 : decode cX11_bang 12 = .ok (.bipush 50, 2) := by decide +kernel
theorem dX11_bang_14 : decode cX11_bang 14 = .ok (.invokestatic 60, 3) := by decide +kernel
theorem dX11_bang_17 : decode cX11_bang 17 = .ok (.ifCond .eq 14, 3) := by decide +kernel
theorem dX11_bang_20 : decode cX11_bang 20 = .ok (.iload_n 3, 1) := by decide +kernel
theorem dX11_bang_21 : decode cX11_bang 21 = .ok (.iconst 1, 1) := by decide +kernel
theorem dX11_bang_22 : decode cX11_bang 22 = .ok (.sipush 999, 3) := by decide +kernel
theorem dX11_bang_25 : decode cX11_bang 25 = .ok (.invokestatic 60, 3) := by decide +kernel
theorem dX11_bang_28 : decode cX11_bang 28 = .ok (.ifCond .ne 7, 3) := by decide +kernel
theorem dX11_bang_31 : decode cX11_bang 31 = .ok (.ldc2_w 64, 3) := by decide +kernel
theorem dX11_bang_34 : decode cX11_bang 34 = .ok (.lreturn, 1) := by decide +kernel
theorem dX11_bang_35 : decode cX11_bang 35 = .ok (.iload 4, 2) := by decide +kernel
theorem dX11_bang_37 : decode cX11_bang 37 = .ok (.iconst 0, 1) := by decide +kernel
theorem dX11_bang_38 : decode cX11_bang 38 = .ok (.sipush 999, 3) := by decide +kernel
theorem dX11_bang_41 : decode cX11_bang 41 = .ok (.invokestatic 60, 3) := by decide +kernel
theorem dX11_bang_44 : decode cX11_bang 44 = .ok (.ifCond .eq 13, 3) := by decide +kernel
theorem dX11_bang_47 : decode cX11_bang 47 = .ok (.iload 5, 2) := by decide +kernel
theorem dX11_bang_49 : decode cX11_bang 49 = .ok (.iconst 0, 1) := by decide +kernel
theorem dX11_bang_50 : decode cX11_bang 50 = .ok (.iconst 2, 1) := by decide +kernel
theorem dX11_bang_51 : decode cX11_bang 51 = .ok (.invokestatic 60, 3) := by decide +kernel
theorem dX11_bang_54 : decode cX11_bang 54 = .ok (.ifCond .ne 7, 3) := by decide +kernel
theorem dX11_bang_57 : decode cX11_bang 57 = .ok (.ldc2_w 64, 3) := by decide +kernel
theorem dX11_bang_60 : decode cX11_bang 60 = .ok (.lreturn, 1) := by decide +kernel
theorem dX11_bang_61 : decode cX11_bang 61 = .ok (.iload_n 1, 1) := by decide +kernel
theorem dX11_bang_62 : decode cX11_bang 62 = .ok (.iload_n 2, 1) := by decide +kernel
theorem dX11_bang_63 : decode cX11_bang 63 = .ok (.imul, 1) := by decide +kernel
theorem dX11_bang_64 : decode cX11_bang 64 = .ok (.istore 6, 2) := by decide +kernel
theorem dX11_bang_66 : decode cX11_bang 66 = .ok (.iload 6, 2) := by decide +kernel
theorem dX11_bang_68 : decode cX11_bang 68 = .ok (.bipush 10, 2) := by decide +kernel
theorem dX11_bang_70 : decode cX11_bang 70 = .ok (.imul, 1) := by decide +kernel
theorem dX11_bang_71 : decode cX11_bang 71 = .ok (.iload_n 3, 1) := by decide +kernel
theorem dX11_bang_72 : decode cX11_bang 72 = .ok (.idiv, 1) := by decide +kernel
theorem dX11_bang_73 : decode cX11_bang 73 = .ok (.istore 7, 2) := by decide +kernel
theorem dX11_bang_75 : decode cX11_bang 75 = .ok (.iload 5, 2) := by decide +kernel
theorem dX11_bang_77 : decode cX11_bang 77 = .ok (.ifCond .ne 7, 3) := by decide +kernel
theorem dX11_bang_80 : decode cX11_bang 80 = .ok (.iload 7, 2) := by decide +kernel
theorem dX11_bang_82 : decode cX11_bang 82 = .ok (.i2l, 1) := by decide +kernel
theorem dX11_bang_83 : decode cX11_bang 83 = .ok (.lreturn, 1) := by decide +kernel
theorem dX11_bang_84 : decode cX11_bang 84 = .ok (.iload 7, 2) := by decide +kernel
theorem dX11_bang_86 : decode cX11_bang 86 = .ok (.bipush 30, 2) := by decide +kernel
theorem dX11_bang_88 : decode cX11_bang 88 = .ok (.sipush 190, 3) := by decide +kernel
theorem dX11_bang_91 : decode cX11_bang 91 = .ok (.invokestatic 60, 3) := by decide +kernel
theorem dX11_bang_94 : decode cX11_bang 94 = .ok (.istore 8, 2) := by decide +kernel
theorem dX11_bang_96 : decode cX11_bang 96 = .ok (.iload 5, 2) := by decide +kernel
theorem dX11_bang_98 : decode cX11_bang 98 = .ok (.iconst 1, 1) := by decide +kernel
theorem dX11_bang_99 : decode cX11_bang 99 = .ok (.if_icmp .ne 8, 3) := by decide +kernel
theorem dX11_bang_102 : decode cX11_bang 102 = .ok (.iload 8, 2) := by decide +kernel
theorem dX11_bang_104 : decode cX11_bang 104 = .ok (.goto 20, 3) := by decide +kernel
theorem dX11_bang_107 : decode cX11_bang 107 = .ok (.iload 8, 2) := by decide +kernel
theorem dX11_bang_109 : decode cX11_bang 109 = .ok (.ifCond .eq 14, 3) := by decide +kernel
theorem dX11_bang_112 : decode cX11_bang 112 = .ok (.iload 6, 2) := by decide +kernel
theorem dX11_bang_114 : decode cX11_bang 114 = .ok (.iload 4, 2) := by decide +kernel
theorem dX11_bang_116 : decode cX11_bang 116 = .ok (.if_icmp .gt 7, 3) := by decide +kernel
theorem dX11_bang_119 : decode cX11_bang 119 = .ok (.iconst 1, 1) := by decide +kernel
theorem dX11_bang_120 : decode cX11_bang 120 = .ok (.goto 4, 3) := by decide +kernel
theorem dX11_bang_123 : decode cX11_bang 123 = .ok (.iconst 0, 1) := by decide +kernel
theorem dX11_bang_124 : decode cX11_bang 124 = .ok (.istore 9, 2) := by decide +kernel
theorem dX11_bang_126 : decode cX11_bang 126 = .ok (.iload 9, 2) := by decide +kernel
theorem dX11_bang_128 : decode cX11_bang 128 = .ok (.ifCond .eq 7, 3) := by decide +kernel
theorem dX11_bang_131 : decode cX11_bang 131 = .ok (.lconst 1, 1) := by decide +kernel
theorem dX11_bang_132 : decode cX11_bang 132 = .ok (.goto 4, 3) := by decide +kernel
theorem dX11_bang_135 : decode cX11_bang 135 = .ok (.lconst 0, 1) := by decide +kernel
theorem dX11_bang_136 : decode cX11_bang 136 = .ok (.lreturn, 1) := by decide +kernel
theorem dX11_leave_0 : decode cX11_leave 0 = .ok (.aload_n 0, 1) := by decide +kernel
theorem dX11_leave_1 : decode cX11_leave 1 = .ok (.getfield 52, 3) := by decide +kernel
theorem dX11_leave_4 : decode cX11_leave 4 = .ok (.getfield 144, 3) := by decide +kernel
theorem dX11_leave_7 : decode cX11_leave 7 = .ok (.ifCond .ne 7, 3) := by decide +kernel
theorem dX11_leave_10 : decode cX11_leave 10 = .ok (.ldc2_w 148, 3) := by decide +kernel
theorem dX11_leave_13 : decode cX11_leave 13 = .ok (.lreturn, 1) := by decide +kernel
theorem dX11_leave_14 : decode cX11_leave 14 = .ok (.iload_n 1, 1) := by decide +kernel
theorem dX11_leave_15 : decode cX11_leave 15 = .ok (.iconst 0, 1) := by decide +kernel
theorem dX11_leave_16 : decode cX11_leave 16 = .ok (.sipush 200, 3) := by decide +kernel
theorem dX11_leave_19 : decode cX11_leave 19 = .ok (.invokestatic 60, 3) := by decide +kernel
theorem dX11_leave_22 : decode cX11_leave 22 = .ok (.ifCond .eq 22, 3) := by decide +kernel
theorem dX11_leave_25 : decode cX11_leave 25 = .ok (.iload_n 2, 1) := by decide +kernel
theorem dX11_leave_26 : decode cX11_leave 26 = .ok (.iconst 0, 1) := by decide +kernel
theorem dX11_leave_27 : decode cX11_leave 27 = .ok (.bipush 50, 2) := by decide +kernel
theorem dX11_leave_29 : decode cX11_leave 29 = .ok (.invokestatic 60, 3) := by decide +kernel
theorem dX11_leave_32 : decode cX11_leave 32 = .ok (.ifCond .eq 12, 3) := by decide +kernel
theorem dX11_leave_35 : decode cX11_leave 35 = .ok (.iload_n 3, 1) := by decide +kernel
theorem dX11_leave_36 : decode cX11_leave 36 = .ok (.iconst 0, 1) := by decide +kernel
theorem dX11_leave_37 : decode cX11_leave 37 = .ok (.iconst 1, 1) := by decide +kernel
theorem dX11_leave_38 : decode cX11_leave 38 = .ok (.invokestatic 60, 3) := by decide +kernel
theorem dX11_leave_41 : decode cX11_leave 41 = .ok (.ifCond .ne 7, 3) := by decide +kernel
theorem dX11_leave_44 : decode cX11_leave 44 = .ok (.ldc2_w 64, 3) := by decide +kernel
theorem dX11_leave_47 : decode cX11_leave 47 = .ok (.lreturn, 1) := by decide +kernel
theorem dX11_leave_48 : decode cX11_leave 48 = .ok (.aload_n 0, 1) := by decide +kernel
theorem dX11_leave_49 : decode cX11_leave 49 = .ok (.getfield 52, 3) := by decide +kernel
theorem dX11_leave_52 : decode cX11_leave 52 = .ok (.getfield 281, 3) := by decide +kernel
theorem dX11_leave_55 : decode cX11_leave 55 = .ok (.iload_n 1, 1) := by decide +kernel
theorem dX11_leave_56 : decode cX11_leave 56 = .ok (.iload_n 2, 1) := by decide +kernel
theorem dX11_leave_57 : decode cX11_leave 57 = .ok (.iload_n 3, 1) := by decide +kernel
theorem dX11_leave_58 : decode cX11_leave 58 = .ok (.invokevirtual 285, 3) := by decide +kernel
theorem dX11_leave_61 : decode cX11_leave 61 = .ok (.i2l, 1) := by decide +kernel
theorem dX11_leave_62 : decode cX11_leave 62 = .ok (.lreturn, 1) := by decide +kernel
theorem dX11_leastWater_0 : decode cX11_leastWater 0 = .ok (.aload_n 0, 1) := by decide +kernel
theorem dX11_leastWater_1 : decode cX11_leastWater 1 = .ok (.getfield 52, 3) := by decide +kernel
theorem dX11_leastWater_4 : decode cX11_leastWater 4 = .ok (.getfield 144, 3) := by decide +kernel
theorem dX11_leastWater_7 : decode cX11_leastWater 7 = .ok (.ifCond .ne 7, 3) := by decide +kernel
theorem dX11_leastWater_10 : decode cX11_leastWater 10 = .ok (.ldc2_w 148, 3) := by decide +kernel
theorem dX11_leastWater_13 : decode cX11_leastWater 13 = .ok (.lreturn, 1) := by decide +kernel
theorem dX11_leastWater_14 : decode cX11_leastWater 14 = .ok (.iload_n 1, 1) := by decide +kernel
theorem dX11_leastWater_15 : decode cX11_leastWater 15 = .ok (.iconst 0, 1) := by decide +kernel
theorem dX11_leastWater_16 : decode cX11_leastWater 16 = .ok (.bipush 50, 2) := by decide +kernel
theorem dX11_leastWater_18 : decode cX11_leastWater 18 = .ok (.invokestatic 60, 3) := by decide +kernel
theorem dX11_leastWater_21 : decode cX11_leastWater 21 = .ok (.ifCond .ne 7, 3) := by decide +kernel
theorem dX11_leastWater_24 : decode cX11_leastWater 24 = .ok (.ldc2_w 64, 3) := by decide +kernel
theorem dX11_leastWater_27 : decode cX11_leastWater 27 = .ok (.lreturn, 1) := by decide +kernel
theorem dX11_leastWater_28 : decode cX11_leastWater 28 = .ok (.aload_n 0, 1) := by decide +kernel
theorem dX11_leastWater_29 : decode cX11_leastWater 29 = .ok (.getfield 52, 3) := by decide +kernel
theorem dX11_leastWater_32 : decode cX11_leastWater 32 = .ok (.getfield 281, 3) := by decide +kernel
theorem dX11_leastWater_35 : decode cX11_leastWater 35 = .ok (.iload_n 1, 1) := by decide +kernel
theorem dX11_leastWater_36 : decode cX11_leastWater 36 = .ok (.invokevirtual 290, 3) := by decide +kernel
theorem dX11_leastWater_39 : decode cX11_leastWater 39 = .ok (.i2l, 1) := by decide +kernel
theorem dX11_leastWater_40 : decode cX11_leastWater 40 = .ok (.lreturn, 1) := by decide +kernel
theorem dX11_sign_0 : decode cX11_sign 0 = .ok (.aload_n 0, 1) := by decide +kernel
theorem dX11_sign_1 : decode cX11_sign 1 = .ok (.getfield 52, 3) := by decide +kernel
theorem dX11_sign_4 : decode cX11_sign 4 = .ok (.getfield 135, 3) := by decide +kernel
theorem dX11_sign_7 : decode cX11_sign 7 = .ok (.iload_n 1, 1) := by decide +kernel
theorem dX11_sign_8 : decode cX11_sign 8 = .ok (.invokevirtual 293, 3) := by decide +kernel
theorem dX11_sign_11 : decode cX11_sign 11 = .ok (.ifCond .ne 7, 3) := by decide +kernel
theorem dX11_sign_14 : decode cX11_sign 14 = .ok (.ldc2_w 64, 3) := by decide +kernel
theorem dX11_sign_17 : decode cX11_sign 17 = .ok (.lreturn, 1) := by decide +kernel
theorem dX11_sign_18 : decode cX11_sign 18 = .ok (.iload_n 2, 1) := by decide +kernel
theorem dX11_sign_19 : decode cX11_sign 19 = .ok (.tableswitch 85 0 2 #[25, 39, 62], 25) := by decide +kernel
theorem dX11_sign_44 : decode cX11_sign 44 = .ok (.aload_n 0, 1) := by decide +kernel
theorem dX11_sign_45 : decode cX11_sign 45 = .ok (.getfield 52, 3) := by decide +kernel
theorem dX11_sign_48 : decode cX11_sign 48 = .ok (.getfield 135, 3) := by decide +kernel
theorem dX11_sign_51 : decode cX11_sign 51 = .ok (.getfield 296, 3) := by decide +kernel
theorem dX11_sign_54 : decode cX11_sign 54 = .ok (.iload_n 1, 1) := by decide +kernel
theorem dX11_sign_55 : decode cX11_sign 55 = .ok (.iaload, 1) := by decide +kernel
theorem dX11_sign_56 : decode cX11_sign 56 = .ok (.i2l, 1) := by decide +kernel
theorem dX11_sign_57 : decode cX11_sign 57 = .ok (.lreturn, 1) := by decide +kernel
theorem dX11_sign_58 : decode cX11_sign 58 = .ok (.aload_n 0, 1) := by decide +kernel
theorem dX11_sign_59 : decode cX11_sign 59 = .ok (.getfield 52, 3) := by decide +kernel
theorem dX11_sign_62 : decode cX11_sign 62 = .ok (.getfield 135, 3) := by decide +kernel
theorem dX11_sign_65 : decode cX11_sign 65 = .ok (.iload_n 1, 1) := by decide +kernel
theorem dX11_sign_66 : decode cX11_sign 66 = .ok (.aload_n 0, 1) := by decide +kernel
theorem dX11_sign_67 : decode cX11_sign 67 = .ok (.getfield 52, 3) := by decide +kernel
theorem dX11_sign_70 : decode cX11_sign 70 = .ok (.getfield 135, 3) := by decide +kernel
theorem dX11_sign_73 : decode cX11_sign 73 = .ok (.getfield 299, 3) := by decide +kernel
theorem dX11_sign_76 : decode cX11_sign 76 = .ok (.invokevirtual 302, 3) := by decide +kernel
theorem dX11_sign_79 : decode cX11_sign 79 = .ok (.i2l, 1) := by decide +kernel
theorem dX11_sign_80 : decode cX11_sign 80 = .ok (.lreturn, 1) := by decide +kernel
theorem dX11_sign_81 : decode cX11_sign 81 = .ok (.aload_n 0, 1) := by decide +kernel
theorem dX11_sign_82 : decode cX11_sign 82 = .ok (.getfield 52, 3) := by decide +kernel
theorem dX11_sign_85 : decode cX11_sign 85 = .ok (.getfield 135, 3) := by decide +kernel
theorem dX11_sign_88 : decode cX11_sign 88 = .ok (.iload_n 1, 1) := by decide +kernel
theorem dX11_sign_89 : decode cX11_sign 89 = .ok (.aload_n 0, 1) := by decide +kernel
theorem dX11_sign_90 : decode cX11_sign 90 = .ok (.getfield 52, 3) := by decide +kernel
theorem dX11_sign_93 : decode cX11_sign 93 = .ok (.getfield 135, 3) := by decide +kernel
theorem dX11_sign_96 : decode cX11_sign 96 = .ok (.getfield 306, 3) := by decide +kernel
theorem dX11_sign_99 : decode cX11_sign 99 = .ok (.invokevirtual 302, 3) := by decide +kernel
theorem dX11_sign_102 : decode cX11_sign 102 = .ok (.i2l, 1) := by decide +kernel
theorem dX11_sign_103 : decode cX11_sign 103 = .ok (.lreturn, 1) := by decide +kernel
theorem dX11_sign_104 : decode cX11_sign 104 = .ok (.ldc2_w 64, 3) := by decide +kernel
theorem dX11_sign_107 : decode cX11_sign 107 = .ok (.lreturn, 1) := by decide +kernel
theorem dX11_oath_0 : decode cX11_oath 0 = .ok (.aload_n 0, 1) := by decide +kernel
theorem dX11_oath_1 : decode cX11_oath 1 = .ok (.getfield 52, 3) := by decide +kernel
theorem dX11_oath_4 : decode cX11_oath 4 = .ok (.getfield 144, 3) := by decide +kernel
theorem dX11_oath_7 : decode cX11_oath 7 = .ok (.ifCond .ne 7, 3) := by decide +kernel
theorem dX11_oath_10 : decode cX11_oath 10 = .ok (.ldc2_w 148, 3) := by decide +kernel
theorem dX11_oath_13 : decode cX11_oath 13 = .ok (.lreturn, 1) := by decide +kernel
theorem dX11_oath_14 : decode cX11_oath 14 = .ok (.iload_n 1, 1) := by decide +kernel
theorem dX11_oath_15 : decode cX11_oath 15 = .ok (.iconst 0, 1) := by decide +kernel
theorem dX11_oath_16 : decode cX11_oath 16 = .ok (.bipush 9, 2) := by decide +kernel
theorem dX11_oath_18 : decode cX11_oath 18 = .ok (.invokestatic 60, 3) := by decide +kernel
theorem dX11_oath_21 : decode cX11_oath 21 = .ok (.ifCond .ne 7, 3) := by decide +kernel
theorem dX11_oath_24 : decode cX11_oath 24 = .ok (.ldc2_w 64, 3) := by decide +kernel
theorem dX11_oath_27 : decode cX11_oath 27 = .ok (.lreturn, 1) := by decide +kernel
theorem dX11_oath_28 : decode cX11_oath 28 = .ok (.aload_n 0, 1) := by decide +kernel
theorem dX11_oath_29 : decode cX11_oath 29 = .ok (.getfield 52, 3) := by decide +kernel
theorem dX11_oath_32 : decode cX11_oath 32 = .ok (.getfield 135, 3) := by decide +kernel
theorem dX11_oath_35 : decode cX11_oath 35 = .ok (.iload_n 1, 1) := by decide +kernel
theorem dX11_oath_36 : decode cX11_oath 36 = .ok (.invokevirtual 309, 3) := by decide +kernel
theorem dX11_oath_39 : decode cX11_oath 39 = .ok (.i2l, 1) := by decide +kernel
theorem dX11_oath_40 : decode cX11_oath 40 = .ok (.lreturn, 1) := by decide +kernel
theorem dX11_madeUp_0 : decode cX11_madeUp 0 = .ok (.aload_n 0, 1) := by decide +kernel
theorem dX11_madeUp_1 : decode cX11_madeUp 1 = .ok (.getfield 52, 3) := by decide +kernel
theorem dX11_madeUp_4 : decode cX11_madeUp 4 = .ok (.getfield 144, 3) := by decide +kernel
theorem dX11_madeUp_7 : decode cX11_madeUp 7 = .ok (.ifCond .ne 7, 3) := by decide +kernel
theorem dX11_madeUp_10 : decode cX11_madeUp 10 = .ok (.ldc2_w 148, 3) := by decide +kernel
theorem dX11_madeUp_13 : decode cX11_madeUp 13 = .ok (.lreturn, 1) := by decide +kernel
theorem dX11_madeUp_14 : decode cX11_madeUp 14 = .ok (.iload_n 1, 1) := by decide +kernel
theorem dX11_madeUp_15 : decode cX11_madeUp 15 = .ok (.iconst 0, 1) := by decide +kernel
theorem dX11_madeUp_16 : decode cX11_madeUp 16 = .ok (.bipush 9, 2) := by decide +kernel
theorem dX11_madeUp_18 : decode cX11_madeUp 18 = .ok (.invokestatic 60, 3) := by decide +kernel
theorem dX11_madeUp_21 : decode cX11_madeUp 21 = .ok (.ifCond .ne 7, 3) := by decide +kernel
theorem dX11_madeUp_24 : decode cX11_madeUp 24 = .ok (.ldc2_w 64, 3) := by decide +kernel
theorem dX11_madeUp_27 : decode cX11_madeUp 27 = .ok (.lreturn, 1) := by decide +kernel
theorem dX11_madeUp_28 : decode cX11_madeUp 28 = .ok (.aload_n 0, 1) := by decide +kernel
theorem dX11_madeUp_29 : decode cX11_madeUp 29 = .ok (.getfield 52, 3) := by decide +kernel
theorem dX11_madeUp_32 : decode cX11_madeUp 32 = .ok (.getfield 135, 3) := by decide +kernel
theorem dX11_madeUp_35 : decode cX11_madeUp 35 = .ok (.iload_n 1, 1) := by decide +kernel
theorem dX11_madeUp_36 : decode cX11_madeUp 36 = .ok (.invokevirtual 312, 3) := by decide +kernel
theorem dX11_madeUp_39 : decode cX11_madeUp 39 = .ok (.i2l, 1) := by decide +kernel
theorem dX11_madeUp_40 : decode cX11_madeUp 40 = .ok (.lreturn, 1) := by decide +kernel
theorem dX11_odds_0 : decode cX11_odds 0 = .ok (.aload_n 0, 1) := by decide +kernel
theorem dX11_odds_1 : decode cX11_odds 1 = .ok (.getfield 52, 3) := by decide +kernel
theorem dX11_odds_4 : decode cX11_odds 4 = .ok (.getfield 135, 3) := by decide +kernel
theorem dX11_odds_7 : decode cX11_odds 7 = .ok (.astore 4, 2) := by decide +kernel
theorem dX11_odds_9 : decode cX11_odds 9 = .ok (.aload 4, 2) := by decide +kernel
theorem dX11_odds_11 : decode cX11_odds 11 = .ok (.iload_n 1, 1) := by decide +kernel
theorem dX11_odds_12 : decode cX11_odds 12 = .ok (.invokevirtual 315, 3) := by decide +kernel
theorem dX11_odds_15 : decode cX11_odds 15 = .ok (.ifCond .eq 21, 3) := by decide +kernel
theorem dX11_odds_18 : decode cX11_odds 18 = .ok (.aload 4, 2) := by decide +kernel
theorem dX11_odds_20 : decode cX11_odds 20 = .ok (.iload_n 2, 1) := by decide +kernel
theorem dX11_odds_21 : decode cX11_odds 21 = .ok (.invokevirtual 318, 3) := by decide +kernel
theorem dX11_odds_24 : decode cX11_odds 24 = .ok (.ifCond .eq 12, 3) := by decide +kernel
theorem dX11_odds_27 : decode cX11_odds 27 = .ok (.iload_n 3, 1) := by decide +kernel
theorem dX11_odds_28 : decode cX11_odds 28 = .ok (.iconst 0, 1) := by decide +kernel
theorem dX11_odds_29 : decode cX11_odds 29 = .ok (.iconst 1, 1) := by decide +kernel
theorem dX11_odds_30 : decode cX11_odds 30 = .ok (.invokestatic 60, 3) := by decide +kernel
theorem dX11_odds_33 : decode cX11_odds 33 = .ok (.ifCond .ne 7, 3) := by decide +kernel
theorem dX11_odds_36 : decode cX11_odds 36 = .ok (.ldc2_w 64, 3) := by decide +kernel
theorem dX11_odds_39 : decode cX11_odds 39 = .ok (.lreturn, 1) := by decide +kernel
theorem dX11_odds_40 : decode cX11_odds 40 = .ok (.lconst 0, 1) := by decide +kernel
theorem dX11_odds_41 : decode cX11_odds 41 = .ok (.lstore 5, 2) := by decide +kernel
theorem dX11_odds_43 : decode cX11_odds 43 = .ok (.iconst 0, 1) := by decide +kernel
theorem dX11_odds_44 : decode cX11_odds 44 = .ok (.istore 7, 2) := by decide +kernel
theorem dX11_odds_46 : decode cX11_odds 46 = .ok (.iload 7, 2) := by decide +kernel
theorem dX11_odds_48 : decode cX11_odds 48 = .ok (.aload 4, 2) := by decide +kernel
theorem dX11_odds_50 : decode cX11_odds 50 = .ok (.getfield 139, 3) := by decide +kernel
theorem dX11_odds_53 : decode cX11_odds 53 = .ok (.if_icmp .ge 22, 3) := by decide +kernel
theorem dX11_odds_56 : decode cX11_odds 56 = .ok (.lload 5, 2) := by decide +kernel
theorem dX11_odds_58 : decode cX11_odds 58 = .ok (.aload 4, 2) := by decide +kernel
theorem dX11_odds_60 : decode cX11_odds 60 = .ok (.iload 7, 2) := by decide +kernel
theorem dX11_odds_62 : decode cX11_odds 62 = .ok (.iload_n 2, 1) := by decide +kernel
theorem dX11_odds_63 : decode cX11_odds 63 = .ok (.invokevirtual 321, 3) := by decide +kernel
theorem dX11_odds_66 : decode cX11_odds 66 = .ok (.ladd, 1) := by decide +kernel
theorem dX11_odds_67 : decode cX11_odds 67 = .ok (.lstore 5, 2) := by decide +kernel
theorem dX11_odds_69 : decode cX11_odds 69 = .ok (.iinc 7 1, 3) := by decide +kernel
theorem dX11_odds_72 : decode cX11_odds 72 = .ok (.goto (-26), 3) := by decide +kernel
theorem dX11_odds_75 : decode cX11_odds 75 = .ok (.aload 4, 2) := by decide +kernel
theorem dX11_odds_77 : decode cX11_odds 77 = .ok (.iload_n 1, 1) := by decide +kernel
theorem dX11_odds_78 : decode cX11_odds 78 = .ok (.iload_n 2, 1) := by decide +kernel
theorem dX11_odds_79 : decode cX11_odds 79 = .ok (.invokevirtual 321, 3) := by decide +kernel
theorem dX11_odds_82 : decode cX11_odds 82 = .ok (.lload 5, 2) := by decide +kernel
theorem dX11_odds_84 : decode cX11_odds 84 = .ok (.iload_n 3, 1) := by decide +kernel
theorem dX11_odds_85 : decode cX11_odds 85 = .ok (.invokestatic 239, 3) := by decide +kernel
theorem dX11_odds_88 : decode cX11_odds 88 = .ok (.lreturn, 1) := by decide +kernel
theorem dX11_likeliest_0 : decode cX11_likeliest 0 = .ok (.aload_n 0, 1) := by decide +kernel
theorem dX11_likeliest_1 : decode cX11_likeliest 1 = .ok (.getfield 52, 3) := by decide +kernel
theorem dX11_likeliest_4 : decode cX11_likeliest 4 = .ok (.getfield 135, 3) := by decide +kernel
theorem dX11_likeliest_7 : decode cX11_likeliest 7 = .ok (.getfield 139, 3) := by decide +kernel
theorem dX11_likeliest_10 : decode cX11_likeliest 10 = .ok (.ifCond .ne 7, 3) := by decide +kernel
theorem dX11_likeliest_13 : decode cX11_likeliest 13 = .ok (.ldc2_w 148, 3) := by decide +kernel
theorem dX11_likeliest_16 : decode cX11_likeliest 16 = .ok (.lreturn, 1) := by decide +kernel
theorem dX11_likeliest_17 : decode cX11_likeliest 17 = .ok (.aload_n 0, 1) := by decide +kernel
theorem dX11_likeliest_18 : decode cX11_likeliest 18 = .ok (.getfield 52, 3) := by decide +kernel
theorem dX11_likeliest_21 : decode cX11_likeliest 21 = .ok (.getfield 135, 3) := by decide +kernel
theorem dX11_likeliest_24 : decode cX11_likeliest 24 = .ok (.iload_n 1, 1) := by decide +kernel
theorem dX11_likeliest_25 : decode cX11_likeliest 25 = .ok (.invokevirtual 318, 3) := by decide +kernel
theorem dX11_likeliest_28 : decode cX11_likeliest 28 = .ok (.ifCond .ne 7, 3) := by decide +kernel
theorem dX11_likeliest_31 : decode cX11_likeliest 31 = .ok (.ldc2_w 64, 3) := by decide +kernel
theorem dX11_likeliest_34 : decode cX11_likeliest 34 = .ok (.lreturn, 1) := by decide +kernel
theorem dX11_likeliest_35 : decode cX11_likeliest 35 = .ok (.aload_n 0, 1) := by decide +kernel
theorem dX11_likeliest_36 : decode cX11_likeliest 36 = .ok (.getfield 52, 3) := by decide +kernel
theorem dX11_likeliest_39 : decode cX11_likeliest 39 = .ok (.getfield 135, 3) := by decide +kernel
theorem dX11_likeliest_42 : decode cX11_likeliest 42 = .ok (.iload_n 1, 1) := by decide +kernel
theorem dX11_likeliest_43 : decode cX11_likeliest 43 = .ok (.invokevirtual 325, 3) := by decide +kernel
theorem dX11_likeliest_46 : decode cX11_likeliest 46 = .ok (.i2l, 1) := by decide +kernel
theorem dX11_likeliest_47 : decode cX11_likeliest 47 = .ok (.lreturn, 1) := by decide +kernel
theorem dX11_lacks_0 : decode cX11_lacks 0 = .ok (.aload_n 0, 1) := by decide +kernel
theorem dX11_lacks_1 : decode cX11_lacks 1 = .ok (.getfield 52, 3) := by decide +kernel
theorem dX11_lacks_4 : decode cX11_lacks 4 = .ok (.getfield 135, 3) := by decide +kernel
theorem dX11_lacks_7 : decode cX11_lacks 7 = .ok (.astore 4, 2) := by decide +kernel
theorem dX11_lacks_9 : decode cX11_lacks 9 = .ok (.aload 4, 2) := by decide +kernel
theorem dX11_lacks_11 : decode cX11_lacks 11 = .ok (.iload_n 1, 1) := by decide +kernel
theorem dX11_lacks_12 : decode cX11_lacks 12 = .ok (.invokevirtual 315, 3) := by decide +kernel
theorem dX11_lacks_15 : decode cX11_lacks 15 = .ok (.ifCond .eq 21, 3) := by decide +kernel
theorem dX11_lacks_18 : decode cX11_lacks 18 = .ok (.aload 4, 2) := by decide +kernel
theorem dX11_lacks_20 : decode cX11_lacks 20 = .ok (.iload_n 2, 1) := by decide +kernel
theorem dX11_lacks_21 : decode cX11_lacks 21 = .ok (.invokevirtual 318, 3) := by decide +kernel
theorem dX11_lacks_24 : decode cX11_lacks 24 = .ok (.ifCond .eq 12, 3) := by decide +kernel
theorem dX11_lacks_27 : decode cX11_lacks 27 = .ok (.iload_n 3, 1) := by decide +kernel
theorem dX11_lacks_28 : decode cX11_lacks 28 = .ok (.iconst 0, 1) := by decide +kernel
theorem dX11_lacks_29 : decode cX11_lacks 29 = .ok (.iconst 1, 1) := by decide +kernel
theorem dX11_lacks_30 : decode cX11_lacks 30 = .ok (.invokestatic 60, 3) := by decide +kernel
theorem dX11_lacks_33 : decode cX11_lacks 33 = .ok (.ifCond .ne 7, 3) := by decide +kernel
theorem dX11_lacks_36 : decode cX11_lacks 36 = .ok (.ldc2_w 64, 3) := by decide +kernel
theorem dX11_lacks_39 : decode cX11_lacks 39 = .ok (.lreturn, 1) := by decide +kernel
theorem dX11_lacks_40 : decode cX11_lacks 40 = .ok (.iload_n 3, 1) := by decide +kernel
theorem dX11_lacks_41 : decode cX11_lacks 41 = .ok (.ifCond .ne 18, 3) := by decide +kernel
theorem dX11_lacks_44 : decode cX11_lacks 44 = .ok (.aload 4, 2) := by decide +kernel
theorem dX11_lacks_46 : decode cX11_lacks 46 = .ok (.getfield 299, 3) := by decide +kernel
theorem dX11_lacks_49 : decode cX11_lacks 49 = .ok (.iload_n 1, 1) := by decide +kernel
theorem dX11_lacks_50 : decode cX11_lacks 50 = .ok (.iaload, 1) := by decide +kernel
theorem dX11_lacks_51 : decode cX11_lacks 51 = .ok (.iload_n 2, 1) := by decide +kernel
theorem dX11_lacks_52 : decode cX11_lacks 52 = .ok (.iconst (-1), 1) := by decide +kernel
theorem dX11_lacks_53 : decode cX11_lacks 53 = .ok (.ixor, 1) := by decide +kernel
theorem dX11_lacks_54 : decode cX11_lacks 54 = .ok (.iand, 1) := by decide +kernel
theorem dX11_lacks_55 : decode cX11_lacks 55 = .ok (.i2l, 1) := by decide +kernel
theorem dX11_lacks_56 : decode cX11_lacks 56 = .ok (.goto 13, 3) := by decide +kernel
theorem dX11_lacks_59 : decode cX11_lacks 59 = .ok (.aload 4, 2) := by decide +kernel
theorem dX11_lacks_61 : decode cX11_lacks 61 = .ok (.getfield 306, 3) := by decide +kernel
theorem dX11_lacks_64 : decode cX11_lacks 64 = .ok (.iload_n 1, 1) := by decide +kernel
theorem dX11_lacks_65 : decode cX11_lacks 65 = .ok (.iaload, 1) := by decide +kernel
theorem dX11_lacks_66 : decode cX11_lacks 66 = .ok (.iload_n 2, 1) := by decide +kernel
theorem dX11_lacks_67 : decode cX11_lacks 67 = .ok (.iand, 1) := by decide +kernel
theorem dX11_lacks_68 : decode cX11_lacks 68 = .ok (.i2l, 1) := by decide +kernel
theorem dX11_lacks_69 : decode cX11_lacks 69 = .ok (.lreturn, 1) := by decide +kernel
theorem dX11_next_0 : decode cX11_next 0 = .ok (.aload_n 0, 1) := by decide +kernel
theorem dX11_next_1 : decode cX11_next 1 = .ok (.getfield 52, 3) := by decide +kernel
theorem dX11_next_4 : decode cX11_next 4 = .ok (.getfield 144, 3) := by decide +kernel
theorem dX11_next_7 : decode cX11_next 7 = .ok (.ifCond .ne 7, 3) := by decide +kernel
theorem dX11_next_10 : decode cX11_next 10 = .ok (.ldc2_w 148, 3) := by decide +kernel
theorem dX11_next_13 : decode cX11_next 13 = .ok (.lreturn, 1) := by decide +kernel
theorem dX11_next_14 : decode cX11_next 14 = .ok (.aload_n 0, 1) := by decide +kernel
theorem dX11_next_15 : decode cX11_next 15 = .ok (.getfield 52, 3) := by decide +kernel
theorem dX11_next_18 : decode cX11_next 18 = .ok (.getfield 135, 3) := by decide +kernel
theorem dX11_next_21 : decode cX11_next 21 = .ok (.iload_n 1, 1) := by decide +kernel
theorem dX11_next_22 : decode cX11_next 22 = .ok (.invokevirtual 318, 3) := by decide +kernel
theorem dX11_next_25 : decode cX11_next 25 = .ok (.ifCond .ne 7, 3) := by decide +kernel
theorem dX11_next_28 : decode cX11_next 28 = .ok (.ldc2_w 64, 3) := by decide +kernel
theorem dX11_next_31 : decode cX11_next 31 = .ok (.lreturn, 1) := by decide +kernel
theorem dX11_next_32 : decode cX11_next 32 = .ok (.aload_n 0, 1) := by decide +kernel
theorem dX11_next_33 : decode cX11_next 33 = .ok (.getfield 52, 3) := by decide +kernel
theorem dX11_next_36 : decode cX11_next 36 = .ok (.getfield 135, 3) := by decide +kernel
theorem dX11_next_39 : decode cX11_next 39 = .ok (.iload_n 1, 1) := by decide +kernel
theorem dX11_next_40 : decode cX11_next 40 = .ok (.invokevirtual 328, 3) := by decide +kernel
theorem dX11_next_43 : decode cX11_next 43 = .ok (.i2l, 1) := by decide +kernel
theorem dX11_next_44 : decode cX11_next 44 = .ok (.lreturn, 1) := by decide +kernel
theorem dX11_image_0 : decode cX11_image 0 = .ok (.iload_n 1, 1) := by decide +kernel
theorem dX11_image_1 : decode cX11_image 1 = .ok (.iconst 0, 1) := by decide +kernel
theorem dX11_image_2 : decode cX11_image 2 = .ok (.iconst 1, 1) := by decide +kernel
theorem dX11_image_3 : decode cX11_image 3 = .ok (.invokestatic 60, 3) := by decide +kernel
theorem dX11_image_6 : decode cX11_image 6 = .ok (.ifCond .ne 7, 3) := by decide +kernel
theorem dX11_image_9 : decode cX11_image 9 = .ok (.ldc2_w 64, 3) := by decide +kernel
theorem dX11_image_12 : decode cX11_image 12 = .ok (.lreturn, 1) := by decide +kernel
theorem dX11_image_13 : decode cX11_image 13 = .ok (.aload_n 0, 1) := by decide +kernel
theorem dX11_image_14 : decode cX11_image 14 = .ok (.getfield 52, 3) := by decide +kernel
theorem dX11_image_17 : decode cX11_image 17 = .ok (.getfield 144, 3) := by decide +kernel
theorem dX11_image_20 : decode cX11_image 20 = .ok (.ifCond .ne 7, 3) := by decide +kernel
theorem dX11_image_23 : decode cX11_image 23 = .ok (.ldc2_w 148, 3) := by decide +kernel
theorem dX11_image_26 : decode cX11_image 26 = .ok (.lreturn, 1) := by decide +kernel
theorem dX11_image_27 : decode cX11_image 27 = .ok (.aload_n 0, 1) := by decide +kernel
theorem dX11_image_28 : decode cX11_image 28 = .ok (.getfield 33, 3) := by decide +kernel
theorem dX11_image_31 : decode cX11_image 31 = .ok (.iload_n 1, 1) := by decide +kernel
theorem dX11_image_32 : decode cX11_image 32 = .ok (.aaload, 1) := by decide +kernel
theorem dX11_image_33 : decode cX11_image 33 = .ok (.aload_n 0, 1) := by decide +kernel
theorem dX11_image_34 : decode cX11_image 34 = .ok (.getfield 52, 3) := by decide +kernel
theorem dX11_image_37 : decode cX11_image 37 = .ok (.invokevirtual 331, 3) := by decide +kernel
theorem dX11_image_40 : decode cX11_image 40 = .ok (.lconst 1, 1) := by decide +kernel
theorem dX11_image_41 : decode cX11_image 41 = .ok (.lreturn, 1) := by decide +kernel
theorem dX11_restore_0 : decode cX11_restore 0 = .ok (.iload_n 1, 1) := by decide +kernel
theorem dX11_restore_1 : decode cX11_restore 1 = .ok (.iconst 0, 1) := by decide +kernel
theorem dX11_restore_2 : decode cX11_restore 2 = .ok (.iconst 1, 1) := by decide +kernel
theorem dX11_restore_3 : decode cX11_restore 3 = .ok (.invokestatic 60, 3) := by decide +kernel
theorem dX11_restore_6 : decode cX11_restore 6 = .ok (.ifCond .ne 7, 3) := by decide +kernel
theorem dX11_restore_9 : decode cX11_restore 9 = .ok (.ldc2_w 64, 3) := by decide +kernel
theorem dX11_restore_12 : decode cX11_restore 12 = .ok (.lreturn, 1) := by decide +kernel
theorem dX11_restore_13 : decode cX11_restore 13 = .ok (.aload_n 0, 1) := by decide +kernel
theorem dX11_restore_14 : decode cX11_restore 14 = .ok (.getfield 33, 3) := by decide +kernel
theorem dX11_restore_17 : decode cX11_restore 17 = .ok (.iload_n 1, 1) := by decide +kernel
theorem dX11_restore_18 : decode cX11_restore 18 = .ok (.aaload, 1) := by decide +kernel
theorem dX11_restore_19 : decode cX11_restore 19 = .ok (.getfield 144, 3) := by decide +kernel
theorem dX11_restore_22 : decode cX11_restore 22 = .ok (.ifCond .ne 7, 3) := by decide +kernel
theorem dX11_restore_25 : decode cX11_restore 25 = .ok (.ldc2_w 148, 3) := by decide +kernel
theorem dX11_restore_28 : decode cX11_restore 28 = .ok (.lreturn, 1) := by decide +kernel
theorem dX11_restore_29 : decode cX11_restore 29 = .ok (.aload_n 0, 1) := by decide +kernel
theorem dX11_restore_30 : decode cX11_restore 30 = .ok (.getfield 52, 3) := by decide +kernel
theorem dX11_restore_33 : decode cX11_restore 33 = .ok (.aload_n 0, 1) := by decide +kernel
theorem dX11_restore_34 : decode cX11_restore 34 = .ok (.getfield 33, 3) := by decide +kernel
theorem dX11_restore_37 : decode cX11_restore 37 = .ok (.iload_n 1, 1) := by decide +kernel
theorem dX11_restore_38 : decode cX11_restore 38 = .ok (.aaload, 1) := by decide +kernel
theorem dX11_restore_39 : decode cX11_restore 39 = .ok (.invokevirtual 331, 3) := by decide +kernel
theorem dX11_restore_42 : decode cX11_restore 42 = .ok (.lconst 1, 1) := by decide +kernel
theorem dX11_restore_43 : decode cX11_restore 43 = .ok (.lreturn, 1) := by decide +kernel
theorem dX11_kind_0 : decode cX11_kind 0 = .ok (.aload_n 0, 1) := by decide +kernel
theorem dX11_kind_1 : decode cX11_kind 1 = .ok (.getfield 52, 3) := by decide +kernel
theorem dX11_kind_4 : decode cX11_kind 4 = .ok (.getfield 135, 3) := by decide +kernel
theorem dX11_kind_7 : decode cX11_kind 7 = .ok (.iload_n 1, 1) := by decide +kernel
theorem dX11_kind_8 : decode cX11_kind 8 = .ok (.invokevirtual 293, 3) := by decide +kernel
theorem dX11_kind_11 : decode cX11_kind 11 = .ok (.ifCond .eq 19, 3) := by decide +kernel
theorem dX11_kind_14 : decode cX11_kind 14 = .ok (.aload_n 0, 1) := by decide +kernel
theorem dX11_kind_15 : decode cX11_kind 15 = .ok (.getfield 52, 3) := by decide +kernel
theorem dX11_kind_18 : decode cX11_kind 18 = .ok (.getfield 135, 3) := by decide +kernel
theorem dX11_kind_21 : decode cX11_kind 21 = .ok (.getfield 334, 3) := by decide +kernel
theorem dX11_kind_24 : decode cX11_kind 24 = .ok (.iload_n 1, 1) := by decide +kernel
theorem dX11_kind_25 : decode cX11_kind 25 = .ok (.iaload, 1) := by decide +kernel
theorem dX11_kind_26 : decode cX11_kind 26 = .ok (.i2l, 1) := by decide +kernel
theorem dX11_kind_27 : decode cX11_kind 27 = .ok (.goto 6, 3) := by decide +kernel
theorem dX11_kind_30 : decode cX11_kind 30 = .ok (.ldc2_w 64, 3) := by decide +kernel
theorem dX11_kind_33 : decode cX11_kind 33 = .ok (.lreturn, 1) := by decide +kernel
theorem dX11_as_0 : decode cX11_as 0 = .ok (.aload_n 0, 1) := by decide +kernel
theorem dX11_as_1 : decode cX11_as 1 = .ok (.getfield 52, 3) := by decide +kernel
theorem dX11_as_4 : decode cX11_as 4 = .ok (.getfield 135, 3) := by decide +kernel
theorem dX11_as_7 : decode cX11_as 7 = .ok (.iload_n 1, 1) := by decide +kernel
theorem dX11_as_8 : decode cX11_as 8 = .ok (.invokevirtual 293, 3) := by decide +kernel
theorem dX11_as_11 : decode cX11_as 11 = .ok (.ifCond .eq 13, 3) := by decide +kernel
theorem dX11_as_14 : decode cX11_as 14 = .ok (.iload_n 2, 1) := by decide +kernel
theorem dX11_as_15 : decode cX11_as 15 = .ok (.iconst 0, 1) := by decide +kernel
theorem dX11_as_16 : decode cX11_as 16 = .ok (.bipush 7, 2) := by decide +kernel
theorem dX11_as_18 : decode cX11_as 18 = .ok (.invokestatic 60, 3) := by decide +kernel
theorem dX11_as_21 : decode cX11_as 21 = .ok (.ifCond .ne 7, 3) := by decide +kernel
theorem dX11_as_24 : decode cX11_as 24 = .ok (.ldc2_w 64, 3) := by decide +kernel
theorem dX11_as_27 : decode cX11_as 27 = .ok (.lreturn, 1) := by decide +kernel
theorem dX11_as_28 : decode cX11_as 28 = .ok (.aload_n 0, 1) := by decide +kernel
theorem dX11_as_29 : decode cX11_as 29 = .ok (.getfield 52, 3) := by decide +kernel
theorem dX11_as_32 : decode cX11_as 32 = .ok (.getfield 135, 3) := by decide +kernel
theorem dX11_as_35 : decode cX11_as 35 = .ok (.getfield 334, 3) := by decide +kernel
theorem dX11_as_38 : decode cX11_as 38 = .ok (.iload_n 1, 1) := by decide +kernel
theorem dX11_as_39 : decode cX11_as 39 = .ok (.iaload, 1) := by decide +kernel
theorem dX11_as_40 : decode cX11_as 40 = .ok (.iload_n 2, 1) := by decide +kernel
theorem dX11_as_41 : decode cX11_as 41 = .ok (.invokestatic 337, 3) := by decide +kernel
theorem dX11_as_44 : decode cX11_as 44 = .ok (.ifCond .eq 12, 3) := by decide +kernel
theorem dX11_as_47 : decode cX11_as 47 = .ok (.aload_n 0, 1) := by decide +kernel
theorem dX11_as_48 : decode cX11_as 48 = .ok (.iload_n 1, 1) := by decide +kernel
theorem dX11_as_49 : decode cX11_as 49 = .ok (.i2l, 1) := by decide +kernel
theorem dX11_as_50 : decode cX11_as 50 = .ok (.invokevirtual 74, 3) := by decide +kernel
theorem dX11_as_53 : decode cX11_as 53 = .ok (.goto 8, 3) := by decide +kernel
theorem dX11_as_56 : decode cX11_as 56 = .ok (.aload_n 0, 1) := by decide +kernel
theorem dX11_as_57 : decode cX11_as 57 = .ok (.iconst 3, 1) := by decide +kernel
theorem dX11_as_58 : decode cX11_as 58 = .ok (.invokevirtual 66, 3) := by decide +kernel
theorem dX11_as_61 : decode cX11_as 61 = .ok (.lreturn, 1) := by decide +kernel
theorem dX11_ask_0 : decode cX11_ask 0 = .ok (.aload_n 0, 1) := by decide +kernel
theorem dX11_ask_1 : decode cX11_ask 1 = .ok (.getfield 52, 3) := by decide +kernel
theorem dX11_ask_4 : decode cX11_ask 4 = .ok (.getfield 135, 3) := by decide +kernel
theorem dX11_ask_7 : decode cX11_ask 7 = .ok (.iload_n 1, 1) := by decide +kernel
theorem dX11_ask_8 : decode cX11_ask 8 = .ok (.invokevirtual 293, 3) := by decide +kernel
theorem dX11_ask_11 : decode cX11_ask 11 = .ok (.ifCond .eq 12, 3) := by decide +kernel
theorem dX11_ask_14 : decode cX11_ask 14 = .ok (.iload_n 2, 1) := by decide +kernel
theorem dX11_ask_15 : decode cX11_ask 15 = .ok (.iconst 0, 1) := by decide +kernel
theorem dX11_ask_16 : decode cX11_ask 16 = .ok (.iconst 1, 1) := by decide +kernel
theorem dX11_ask_17 : decode cX11_ask 17 = .ok (.invokestatic 60, 3) := by decide +kernel
theorem dX11_ask_20 : decode cX11_ask 20 = .ok (.ifCond .ne 7, 3) := by decide +kernel
theorem dX11_ask_23 : decode cX11_ask 23 = .ok (.ldc2_w 64, 3) := by decide +kernel
theorem dX11_ask_26 : decode cX11_ask 26 = .ok (.lreturn, 1) := by decide +kernel
theorem dX11_ask_27 : decode cX11_ask 27 = .ok (.aload_n 0, 1) := by decide +kernel
theorem dX11_ask_28 : decode cX11_ask 28 = .ok (.getfield 47, 3) := by decide +kernel
theorem dX11_ask_31 : decode cX11_ask 31 = .ok (.aload_n 0, 1) := by decide +kernel
theorem dX11_ask_32 : decode cX11_ask 32 = .ok (.getfield 52, 3) := by decide +kernel
theorem dX11_ask_35 : decode cX11_ask 35 = .ok (.getfield 135, 3) := by decide +kernel
theorem dX11_ask_38 : decode cX11_ask 38 = .ok (.iload_n 1, 1) := by decide +kernel
theorem dX11_ask_39 : decode cX11_ask 39 = .ok (.invokevirtual 340, 3) := by decide +kernel
theorem dX11_ask_42 : decode cX11_ask 42 = .ok (.iload_n 2, 1) := by decide +kernel
theorem dX11_ask_43 : decode cX11_ask 43 = .ok (.ifCond .ne 14, 3) := by decide +kernel
theorem dX11_ask_46 : decode cX11_ask 46 = .ok (.aload_n 0, 1) := by decide +kernel
theorem dX11_ask_47 : decode cX11_ask 47 = .ok (.getfield 47, 3) := by decide +kernel
theorem dX11_ask_50 : decode cX11_ask 50 = .ok (.iconst 0, 1) := by decide +kernel
theorem dX11_ask_51 : decode cX11_ask 51 = .ok (.invokevirtual 343, 3) := by decide +kernel
theorem dX11_ask_54 : decode cX11_ask 54 = .ok (.goto 11, 3) := by decide +kernel
theorem dX11_ask_57 : decode cX11_ask 57 = .ok (.aload_n 0, 1) := by decide +kernel
theorem dX11_ask_58 : decode cX11_ask 58 = .ok (.getfield 47, 3) := by decide +kernel
theorem dX11_ask_61 : decode cX11_ask 61 = .ok (.iconst 0, 1) := by decide +kernel
theorem dX11_ask_62 : decode cX11_ask 62 = .ok (.invokevirtual 346, 3) := by decide +kernel
theorem dX11_ask_65 : decode cX11_ask 65 = .ok (.lreturn, 1) := by decide +kernel
theorem dX11_trace_0 : decode cX11_trace 0 = .ok (.iload_n 1, 1) := by decide +kernel
theorem dX11_trace_1 : decode cX11_trace 1 = .ok (.iconst 0, 1) := by decide +kernel
theorem dX11_trace_2 : decode cX11_trace 2 = .ok (.aload_n 0, 1) := by decide +kernel
theorem dX11_trace_3 : decode cX11_trace 3 = .ok (.getfield 47, 3) := by decide +kernel
theorem dX11_trace_6 : decode cX11_trace 6 = .ok (.getfield 349, 3) := by decide +kernel
theorem dX11_trace_9 : decode cX11_trace 9 = .ok (.iconst 1, 1) := by decide +kernel
theorem dX11_trace_10 : decode cX11_trace 10 = .ok (.isub, 1) := by decide +kernel
theorem dX11_trace_11 : decode cX11_trace 11 = .ok (.invokestatic 60, 3) := by decide +kernel
theorem dX11_trace_14 : decode cX11_trace 14 = .ok (.ifCond .eq 15, 3) := by decide +kernel
theorem dX11_trace_17 : decode cX11_trace 17 = .ok (.aload_n 0, 1) := by decide +kernel
theorem dX11_trace_18 : decode cX11_trace 18 = .ok (.getfield 47, 3) := by decide +kernel
theorem dX11_trace_21 : decode cX11_trace 21 = .ok (.getfield 352, 3) := by decide +kernel
theorem dX11_trace_24 : decode cX11_trace 24 = .ok (.iload_n 1, 1) := by decide +kernel
theorem dX11_trace_25 : decode cX11_trace 25 = .ok (.iaload, 1) := by decide +kernel
theorem dX11_trace_26 : decode cX11_trace 26 = .ok (.goto 5, 3) := by decide +kernel
theorem dX11_trace_29 : decode cX11_trace 29 = .ok (.ldc 252, 2) := by decide +kernel
theorem dX11_trace_31 : decode cX11_trace 31 = .ok (.ireturn, 1) := by decide +kernel
theorem dX11_count_0 : decode cX11_count 0 = .ok (.iload_n 1, 1) := by decide +kernel
theorem dX11_count_1 : decode cX11_count 1 = .ok (.tableswitch 161 0 8 #[51, 57, 80, 92, 104, 116, 128, 140, 149], 51) := by decide +kernel
theorem dX11_count_52 : decode cX11_count 52 = .ok (.aload_n 0, 1) := by decide +kernel
theorem dX11_count_53 : decode cX11_count 53 = .ok (.invokevirtual 355, 3) := by decide +kernel
theorem dX11_count_56 : decode cX11_count 56 = .ok (.i2l, 1) := by decide +kernel
theorem dX11_count_57 : decode cX11_count 57 = .ok (.lreturn, 1) := by decide +kernel
theorem dX11_count_58 : decode cX11_count 58 = .ok (.aload_n 0, 1) := by decide +kernel
theorem dX11_count_59 : decode cX11_count 59 = .ok (.getfield 52, 3) := by decide +kernel
theorem dX11_count_62 : decode cX11_count 62 = .ok (.getfield 150, 3) := by decide +kernel
theorem dX11_count_65 : decode cX11_count 65 = .ok (.getfield 358, 3) := by decide +kernel
theorem dX11_count_68 : decode cX11_count 68 = .ok (.aload_n 0, 1) := by decide +kernel
theorem dX11_count_69 : decode cX11_count 69 = .ok (.getfield 52, 3) := by decide +kernel
theorem dX11_count_72 : decode cX11_count 72 = .ok (.getfield 150, 3) := by decide +kernel
theorem dX11_count_75 : decode cX11_count 75 = .ok (.getfield 361, 3) := by decide +kernel
theorem dX11_count_78 : decode cX11_count 78 = .ok (.imul, 1) := by decide +kernel
theorem dX11_count_79 : decode cX11_count 79 = .ok (.i2l, 1) := by decide +kernel
theorem dX11_count_80 : decode cX11_count 80 = .ok (.lreturn, 1) := by decide +kernel
theorem dX11_count_81 : decode cX11_count 81 = .ok (.aload_n 0, 1) := by decide +kernel
theorem dX11_count_82 : decode cX11_count 82 = .ok (.getfield 52, 3) := by decide +kernel
theorem dX11_count_85 : decode cX11_count 85 = .ok (.getfield 150, 3) := by decide +kernel
theorem dX11_count_88 : decode cX11_count 88 = .ok (.getfield 197, 3) := by decide +kernel
theorem dX11_count_91 : decode cX11_count 91 = .ok (.i2l, 1) := by decide +kernel
theorem dX11_count_92 : decode cX11_count 92 = .ok (.lreturn, 1) := by decide +kernel
theorem dX11_count_93 : decode cX11_count 93 = .ok (.aload_n 0, 1) := by decide +kernel
theorem dX11_count_94 : decode cX11_count 94 = .ok (.getfield 52, 3) := by decide +kernel
theorem dX11_count_97 : decode cX11_count 97 = .ok (.getfield 150, 3) := by decide +kernel
theorem dX11_count_100 : decode cX11_count 100 = .ok (.invokevirtual 364, 3) := by decide +kernel
theorem dX11_count_103 : decode cX11_count 103 = .ok (.i2l, 1) := by decide +kernel
theorem dX11_count_104 : decode cX11_count 104 = .ok (.lreturn, 1) := by decide +kernel
theorem dX11_count_105 : decode cX11_count 105 = .ok (.aload_n 0, 1) := by decide +kernel
theorem dX11_count_106 : decode cX11_count 106 = .ok (.getfield 52, 3) := by decide +kernel
theorem dX11_count_109 : decode cX11_count 109 = .ok (.getfield 281, 3) := by decide +kernel
theorem dX11_count_112 : decode cX11_count 112 = .ok (.getfield 367, 3) := by decide +kernel
theorem dX11_count_115 : decode cX11_count 115 = .ok (.i2l, 1) := by decide +kernel
theorem dX11_count_116 : decode cX11_count 116 = .ok (.lreturn, 1) := by decide +kernel
theorem dX11_count_117 : decode cX11_count 117 = .ok (.aload_n 0, 1) := by decide +kernel
theorem dX11_count_118 : decode cX11_count 118 = .ok (.getfield 52, 3) := by decide +kernel
theorem dX11_count_121 : decode cX11_count 121 = .ok (.getfield 135, 3) := by decide +kernel
theorem dX11_count_124 : decode cX11_count 124 = .ok (.getfield 370, 3) := by decide +kernel
theorem dX11_count_127 : decode cX11_count 127 = .ok (.i2l, 1) := by decide +kernel
theorem dX11_count_128 : decode cX11_count 128 = .ok (.lreturn, 1) := by decide +kernel
theorem dX11_count_129 : decode cX11_count 129 = .ok (.aload_n 0, 1) := by decide +kernel
theorem dX11_count_130 : decode cX11_count 130 = .ok (.getfield 52, 3) := by decide +kernel
theorem dX11_count_133 : decode cX11_count 133 = .ok (.getfield 135, 3) := by decide +kernel
theorem dX11_count_136 : decode cX11_count 136 = .ok (.getfield 139, 3) := by decide +kernel
theorem dX11_count_139 : decode cX11_count 139 = .ok (.i2l, 1) := by decide +kernel
theorem dX11_count_140 : decode cX11_count 140 = .ok (.lreturn, 1) := by decide +kernel
theorem dX11_count_141 : decode cX11_count 141 = .ok (.aload_n 0, 1) := by decide +kernel
theorem dX11_count_142 : decode cX11_count 142 = .ok (.getfield 18, 3) := by decide +kernel
theorem dX11_count_145 : decode cX11_count 145 = .ok (.getfield 110, 3) := by decide +kernel
theorem dX11_count_148 : decode cX11_count 148 = .ok (.i2l, 1) := by decide +kernel
theorem dX11_count_149 : decode cX11_count 149 = .ok (.lreturn, 1) := by decide +kernel
theorem dX11_count_150 : decode cX11_count 150 = .ok (.aload_n 0, 1) := by decide +kernel
theorem dX11_count_151 : decode cX11_count 151 = .ok (.getfield 52, 3) := by decide +kernel
theorem dX11_count_154 : decode cX11_count 154 = .ok (.getfield 150, 3) := by decide +kernel
theorem dX11_count_157 : decode cX11_count 157 = .ok (.getfield 232, 3) := by decide +kernel
theorem dX11_count_160 : decode cX11_count 160 = .ok (.i2l, 1) := by decide +kernel
theorem dX11_count_161 : decode cX11_count 161 = .ok (.lreturn, 1) := by decide +kernel
theorem dX11_count_162 : decode cX11_count 162 = .ok (.ldc2_w 64, 3) := by decide +kernel
theorem dX11_count_165 : decode cX11_count 165 = .ok (.lreturn, 1) := by decide +kernel
theorem dX11_status_0 : decode cX11_status 0 = .ok (.aload_n 0, 1) := by decide +kernel
theorem dX11_status_1 : decode cX11_status 1 = .ok (.getfield 373, 3) := by decide +kernel
theorem dX11_status_4 : decode cX11_status 4 = .ok (.ireturn, 1) := by decide +kernel
theorem dX11_found_0 : decode cX11_found 0 = .ok (.aload_n 0, 1) := by decide +kernel
theorem dX11_found_1 : decode cX11_found 1 = .ok (.iload_n 1, 1) := by decide +kernel
theorem dX11_found_2 : decode cX11_found 2 = .ok (.putfield 373, 3) := by decide +kernel
theorem dX11_found_5 : decode cX11_found 5 = .ok (.ldc2_w 376, 3) := by decide +kernel
theorem dX11_found_8 : decode cX11_found 8 = .ok (.iload_n 1, 1) := by decide +kernel
theorem dX11_found_9 : decode cX11_found 9 = .ok (.i2l, 1) := by decide +kernel
theorem dX11_found_10 : decode cX11_found 10 = .ok (.lsub, 1) := by decide +kernel
theorem dX11_found_11 : decode cX11_found 11 = .ok (.lreturn, 1) := by decide +kernel
theorem dX11_fine_0 : decode cX11_fine 0 = .ok (.aload_n 0, 1) := by decide +kernel
theorem dX11_fine_1 : decode cX11_fine 1 = .ok (.iconst 0, 1) := by decide +kernel
theorem dX11_fine_2 : decode cX11_fine 2 = .ok (.putfield 373, 3) := by decide +kernel
theorem dX11_fine_5 : decode cX11_fine 5 = .ok (.lload_n 1, 1) := by decide +kernel
theorem dX11_fine_6 : decode cX11_fine 6 = .ok (.lreturn, 1) := by decide +kernel
theorem dX11_rowsThere_0 : decode cX11_rowsThere 0 = .ok (.iconst 0, 1) := by decide +kernel
theorem dX11_rowsThere_1 : decode cX11_rowsThere 1 = .ok (.istore_n 1, 1) := by decide +kernel
theorem dX11_rowsThere_2 : decode cX11_rowsThere 2 = .ok (.iconst 0, 1) := by decide +kernel
theorem dX11_rowsThere_3 : decode cX11_rowsThere 3 = .ok (.istore_n 2, 1) := by decide +kernel
theorem dX11_rowsThere_4 : decode cX11_rowsThere 4 = .ok (.iload_n 2, 1) := by decide +kernel
theorem dX11_rowsThere_5 : decode cX11_rowsThere 5 = .ok (.bipush 8, 2) := by decide +kernel
theorem dX11_rowsThere_7 : decode cX11_rowsThere 7 = .ok (.if_icmp .ge 24, 3) := by decide +kernel
theorem dX11_rowsThere_10 : decode cX11_rowsThere 10 = .ok (.aload_n 0, 1) := by decide +kernel
theorem dX11_rowsThere_11 : decode cX11_rowsThere 11 = .ok (.getfield 11, 3) := by decide +kernel
theorem dX11_rowsThere_14 : decode cX11_rowsThere 14 = .ok (.iload_n 2, 1) := by decide +kernel
theorem dX11_rowsThere_15 : decode cX11_rowsThere 15 = .ok (.aaload, 1) := by decide +kernel
theorem dX11_rowsThere_16 : decode cX11_rowsThere 16 = .ok (.invokevirtual 78, 3) := by decide +kernel
theorem dX11_rowsThere_19 : decode cX11_rowsThere 19 = .ok (.ifCond .ne 6, 3) := by decide +kernel
theorem dX11_rowsThere_22 : decode cX11_rowsThere 22 = .ok (.iinc 1 1, 3) := by decide +kernel
theorem dX11_rowsThere_25 : decode cX11_rowsThere 25 = .ok (.iinc 2 1, 3) := by decide +kernel
theorem dX11_rowsThere_28 : decode cX11_rowsThere 28 = .ok (.goto (-24), 3) := by decide +kernel
theorem dX11_rowsThere_31 : decode cX11_rowsThere 31 = .ok (.iload_n 1, 1) := by decide +kernel
theorem dX11_rowsThere_32 : decode cX11_rowsThere 32 = .ok (.ireturn, 1) := by decide +kernel
theorem dX11_isWithin_0 : decode cX11_isWithin 0 = .ok (.iload_n 0, 1) := by decide +kernel
theorem dX11_isWithin_1 : decode cX11_isWithin 1 = .ok (.iload_n 1, 1) := by decide +kernel
theorem dX11_isWithin_2 : decode cX11_isWithin 2 = .ok (.if_icmp .lt 12, 3) := by decide +kernel
theorem dX11_isWithin_5 : decode cX11_isWithin 5 = .ok (.iload_n 0, 1) := by decide +kernel
theorem dX11_isWithin_6 : decode cX11_isWithin 6 = .ok (.iload_n 2, 1) := by decide +kernel
theorem dX11_isWithin_7 : decode cX11_isWithin 7 = .ok (.if_icmp .gt 7, 3) := by decide +kernel
theorem dX11_isWithin_10 : decode cX11_isWithin 10 = .ok (.iconst 1, 1) := by decide +kernel
theorem dX11_isWithin_11 : decode cX11_isWithin 11 = .ok (.goto 4, 3) := by decide +kernel
theorem dX11_isWithin_14 : decode cX11_isWithin 14 = .ok (.iconst 0, 1) := by decide +kernel
theorem dX11_isWithin_15 : decode cX11_isWithin 15 = .ok (.ireturn, 1) := by decide +kernel
theorem dX11_isIn_0 : decode cX11_isIn 0 = .ok (.iload_n 1, 1) := by decide +kernel
theorem dX11_isIn_1 : decode cX11_isIn 1 = .ok (.iload_n 0, 1) := by decide +kernel
theorem dX11_isIn_2 : decode cX11_isIn 2 = .ok (.ishr, 1) := by decide +kernel
theorem dX11_isIn_3 : decode cX11_isIn 3 = .ok (.iconst 1, 1) := by decide +kernel
theorem dX11_isIn_4 : decode cX11_isIn 4 = .ok (.iand, 1) := by decide +kernel
theorem dX11_isIn_5 : decode cX11_isIn 5 = .ok (.iconst 1, 1) := by decide +kernel
theorem dX11_isIn_6 : decode cX11_isIn 6 = .ok (.if_icmp .ne 7, 3) := by decide +kernel
theorem dX11_isIn_9 : decode cX11_isIn 9 = .ok (.iconst 1, 1) := by decide +kernel
theorem dX11_isIn_10 : decode cX11_isIn 10 = .ok (.goto 4, 3) := by decide +kernel
theorem dX11_isIn_13 : decode cX11_isIn 13 = .ok (.iconst 0, 1) := by decide +kernel
theorem dX11_isIn_14 : decode cX11_isIn 14 = .ok (.ireturn, 1) := by decide +kernel
theorem dX11_isSetOfHours_0 : decode cX11_isSetOfHours 0 = .ok (.iload_n 0, 1) := by decide +kernel
theorem dX11_isSetOfHours_1 : decode cX11_isSetOfHours 1 = .ok (.iconst 1, 1) := by decide +kernel
theorem dX11_isSetOfHours_2 : decode cX11_isSetOfHours 2 = .ok (.sipush 511, 3) := by decide +kernel
theorem dX11_isSetOfHours_5 : decode cX11_isSetOfHours 5 = .ok (.invokestatic 60, 3) := by decide +kernel
theorem dX11_isSetOfHours_8 : decode cX11_isSetOfHours 8 = .ok (.ireturn, 1) := by decide +kernel
theorem dX11_isTold_0 : decode cX11_isTold 0 = .ok (.iload_n 0, 1) := by decide +kernel
theorem dX11_isTold_1 : decode cX11_isTold 1 = .ok (.iconst 0, 1) := by decide +kernel
theorem dX11_isTold_2 : decode cX11_isTold 2 = .ok (.sipush 200, 3) := by decide +kernel
theorem dX11_isTold_5 : decode cX11_isTold 5 = .ok (.invokestatic 60, 3) := by decide +kernel
theorem dX11_isTold_8 : decode cX11_isTold 8 = .ok (.ifCond .eq 17, 3) := by decide +kernel
theorem dX11_isTold_11 : decode cX11_isTold 11 = .ok (.iload_n 1, 1) := by decide +kernel
theorem dX11_isTold_12 : decode cX11_isTold 12 = .ok (.iconst 0, 1) := by decide +kernel
theorem dX11_isTold_13 : decode cX11_isTold 13 = .ok (.bipush 50, 2) := by decide +kernel
theorem dX11_isTold_15 : decode cX11_isTold 15 = .ok (.invokestatic 60, 3) := by decide +kernel
theorem dX11_isTold_18 : decode cX11_isTold 18 = .ok (.ifCond .eq 7, 3) := by decide +kernel
theorem dX11_isTold_21 : decode cX11_isTold 21 = .ok (.iconst 1, 1) := by decide +kernel
theorem dX11_isTold_22 : decode cX11_isTold 22 = .ok (.goto 4, 3) := by decide +kernel
theorem dX11_isTold_25 : decode cX11_isTold 25 = .ok (.iconst 0, 1) := by decide +kernel
theorem dX11_isTold_26 : decode cX11_isTold 26 = .ok (.ireturn, 1) := by decide +kernel
theorem dX11_isKindOf_0 : decode cX11_isKindOf 0 = .ok (.iload_n 1, 1) := by decide +kernel
theorem dX11_isKindOf_1 : decode cX11_isKindOf 1 = .ok (.ifCond .eq 16, 3) := by decide +kernel
theorem dX11_isKindOf_4 : decode cX11_isKindOf 4 = .ok (.iload_n 1, 1) := by decide +kernel
theorem dX11_isKindOf_5 : decode cX11_isKindOf 5 = .ok (.iload_n 0, 1) := by decide +kernel
theorem dX11_isKindOf_6 : decode cX11_isKindOf 6 = .ok (.if_icmp .eq 11, 3) := by decide +kernel
theorem dX11_isKindOf_9 : decode cX11_isKindOf 9 = .ok (.iload_n 1, 1) := by decide +kernel
theorem dX11_isKindOf_10 : decode cX11_isKindOf 10 = .ok (.iload_n 0, 1) := by decide +kernel
theorem dX11_isKindOf_11 : decode cX11_isKindOf 11 = .ok (.invokestatic 378, 3) := by decide +kernel
theorem dX11_isKindOf_14 : decode cX11_isKindOf 14 = .ok (.if_icmp .ne 7, 3) := by decide +kernel
theorem dX11_isKindOf_17 : decode cX11_isKindOf 17 = .ok (.iconst 1, 1) := by decide +kernel
theorem dX11_isKindOf_18 : decode cX11_isKindOf 18 = .ok (.goto 4, 3) := by decide +kernel
theorem dX11_isKindOf_21 : decode cX11_isKindOf 21 = .ok (.iconst 0, 1) := by decide +kernel
theorem dX11_isKindOf_22 : decode cX11_isKindOf 22 = .ok (.ireturn, 1) := by decide +kernel
theorem dX11_kindAbove_0 : decode cX11_kindAbove 0 = .ok (.iload_n 0, 1) := by decide +kernel
theorem dX11_kindAbove_1 : decode cX11_kindAbove 1 = .ok (.iconst 5, 1) := by decide +kernel
theorem dX11_kindAbove_2 : decode cX11_kindAbove 2 = .ok (.if_icmp .ne 5, 3) := by decide +kernel
theorem dX11_kindAbove_5 : decode cX11_kindAbove 5 = .ok (.iconst 4, 1) := by decide +kernel
theorem dX11_kindAbove_6 : decode cX11_kindAbove 6 = .ok (.ireturn, 1) := by decide +kernel
theorem dX11_kindAbove_7 : decode cX11_kindAbove 7 = .ok (.iload_n 0, 1) := by decide +kernel
theorem dX11_kindAbove_8 : decode cX11_kindAbove 8 = .ok (.bipush 7, 2) := by decide +kernel
theorem dX11_kindAbove_10 : decode cX11_kindAbove 10 = .ok (.if_icmp .ne 8, 3) := by decide +kernel
theorem dX11_kindAbove_13 : decode cX11_kindAbove 13 = .ok (.bipush 6, 2) := by decide +kernel
theorem dX11_kindAbove_15 : decode cX11_kindAbove 15 = .ok (.goto 4, 3) := by decide +kernel
theorem dX11_kindAbove_18 : decode cX11_kindAbove 18 = .ok (.iconst 0, 1) := by decide +kernel
theorem dX11_kindAbove_19 : decode cX11_kindAbove 19 = .ok (.ireturn, 1) := by decide +kernel
theorem dX11_power_0 : decode cX11_power 0 = .ok (.lconst 1, 1) := by decide +kernel
theorem dX11_power_1 : decode cX11_power 1 = .ok (.lstore_n 3, 1) := by decide +kernel
theorem dX11_power_2 : decode cX11_power 2 = .ok (.iconst 0, 1) := by decide +kernel
theorem dX11_power_3 : decode cX11_power 3 = .ok (.istore 5, 2) := by decide +kernel
theorem dX11_power_5 : decode cX11_power 5 = .ok (.iload 5, 2) := by decide +kernel
theorem dX11_power_7 : decode cX11_power 7 = .ok (.iload_n 2, 1) := by decide +kernel
theorem dX11_power_8 : decode cX11_power 8 = .ok (.if_icmp .ge 13, 3) := by decide +kernel
theorem dX11_power_11 : decode cX11_power 11 = .ok (.lload_n 3, 1) := by decide +kernel
theorem dX11_power_12 : decode cX11_power 12 = .ok (.lload_n 0, 1) := by decide +kernel
theorem dX11_power_13 : decode cX11_power 13 = .ok (.lmul, 1) := by decide +kernel
theorem dX11_power_14 : decode cX11_power 14 = .ok (.lstore_n 3, 1) := by decide +kernel
theorem dX11_power_15 : decode cX11_power 15 = .ok (.iinc 5 1, 3) := by decide +kernel
theorem dX11_power_18 : decode cX11_power 18 = .ok (.goto (-13), 3) := by decide +kernel
theorem dX11_power_21 : decode cX11_power 21 = .ok (.lload_n 3, 1) := by decide +kernel
theorem dX11_power_22 : decode cX11_power 22 = .ok (.lreturn, 1) := by decide +kernel
theorem dX11_partOfFraction_0 : decode cX11_partOfFraction 0 = .ok (.lload_n 0, 1) := by decide +kernel
theorem dX11_partOfFraction_1 : decode cX11_partOfFraction 1 = .ok (.lconst 0, 1) := by decide +kernel
theorem dX11_partOfFraction_2 : decode cX11_partOfFraction 2 = .ok (.lcmp, 1) := by decide +kernel
theorem dX11_partOfFraction_3 : decode cX11_partOfFraction 3 = .ok (.ifCond .le 9, 3) := by decide +kernel
theorem dX11_partOfFraction_6 : decode cX11_partOfFraction 6 = .ok (.lload_n 2, 1) := by decide +kernel
theorem dX11_partOfFraction_7 : decode cX11_partOfFraction 7 = .ok (.lconst 0, 1) := by decide +kernel
theorem dX11_partOfFraction_8 : decode cX11_partOfFraction 8 = .ok (.lcmp, 1) := by decide +kernel
theorem dX11_partOfFraction_9 : decode cX11_partOfFraction 9 = .ok (.ifCond .gt 14, 3) := by decide +kernel
theorem dX11_partOfFraction_12 : decode cX11_partOfFraction 12 = .ok (.iload 4, 2) := by decide +kernel
theorem dX11_partOfFraction_14 : decode cX11_partOfFraction 14 = .ok (.ifCond .ne 7, 3) := by decide +kernel
theorem dX11_partOfFraction_17 : decode cX11_partOfFraction 17 = .ok (.lconst 0, 1) := by decide +kernel
theorem dX11_partOfFraction_18 : decode cX11_partOfFraction 18 = .ok (.goto 4, 3) := by decide +kernel
theorem dX11_partOfFraction_21 : decode cX11_partOfFraction 21 = .ok (.lconst 1, 1) := by decide +kernel
theorem dX11_partOfFraction_22 : decode cX11_partOfFraction 22 = .ok (.lreturn, 1) := by decide +kernel
theorem dX11_partOfFraction_23 : decode cX11_partOfFraction 23 = .ok (.lload_n 0, 1) := by decide +kernel
theorem dX11_partOfFraction_24 : decode cX11_partOfFraction 24 = .ok (.lstore 5, 2) := by decide +kernel
theorem dX11_partOfFraction_26 : decode cX11_partOfFraction 26 = .ok (.lload_n 2, 1) := by decide +kernel
theorem dX11_partOfFraction_27 : decode cX11_partOfFraction 27 = .ok (.lstore 7, 2) := by decide +kernel
theorem dX11_partOfFraction_29 : decode cX11_partOfFraction 29 = .ok (.iconst 0, 1) := by decide +kernel
theorem dX11_partOfFraction_30 : decode cX11_partOfFraction 30 = .ok (.istore 9, 2) := by decide +kernel
theorem dX11_partOfFraction_32 : decode cX11_partOfFraction 32 = .ok (.iload 9, 2) := by decide +kernel
theorem dX11_partOfFraction_34 : decode cX11_partOfFraction 34 = .ok (.bipush 100, 2) := by decide +kernel
theorem dX11_partOfFraction_36 : decode cX11_partOfFraction 36 = .ok (.if_icmp .ge 31, 3) := by decide +kernel
theorem dX11_partOfFraction_39 : decode cX11_partOfFraction 39 = .ok (.lload 7, 2) := by decide +kernel
theorem dX11_partOfFraction_41 : decode cX11_partOfFraction 41 = .ok (.lconst 0, 1) := by decide +kernel
theorem dX11_partOfFraction_42 : decode cX11_partOfFraction 42 = .ok (.lcmp, 1) := by decide +kernel
theorem dX11_partOfFraction_43 : decode cX11_partOfFraction 43 = .ok (.ifCond .eq 24, 3) := by decide +kernel
theorem dX11_partOfFraction_46 : decode cX11_partOfFraction 46 = .ok (.lload 5, 2) := by decide +kernel
theorem dX11_partOfFraction_48 : decode cX11_partOfFraction 48 = .ok (.lload 7, 2) := by decide +kernel
theorem dX11_partOfFraction_50 : decode cX11_partOfFraction 50 = .ok (.lrem, 1) := by decide +kernel
theorem dX11_partOfFraction_51 : decode cX11_partOfFraction 51 = .ok (.lstore 10, 2) := by decide +kernel
theorem dX11_partOfFraction_53 : decode cX11_partOfFraction 53 = .ok (.lload 7, 2) := by decide +kernel
theorem dX11_partOfFraction_55 : decode cX11_partOfFraction 55 = .ok (.lstore 5, 2) := by decide +kernel
theorem dX11_partOfFraction_57 : decode cX11_partOfFraction 57 = .ok (.lload 10, 2) := by decide +kernel
theorem dX11_partOfFraction_59 : decode cX11_partOfFraction 59 = .ok (.lstore 7, 2) := by decide +kernel
theorem dX11_partOfFraction_61 : decode cX11_partOfFraction 61 = .ok (.iinc 9 1, 3) := by decide +kernel
theorem dX11_partOfFraction_64 : decode cX11_partOfFraction 64 = .ok (.goto (-32), 3) := by decide +kernel
theorem dX11_partOfFraction_67 : decode cX11_partOfFraction 67 = .ok (.lload 5, 2) := by decide +kernel
theorem dX11_partOfFraction_69 : decode cX11_partOfFraction 69 = .ok (.lconst 0, 1) := by decide +kernel
theorem dX11_partOfFraction_70 : decode cX11_partOfFraction 70 = .ok (.lcmp, 1) := by decide +kernel
theorem dX11_partOfFraction_71 : decode cX11_partOfFraction 71 = .ok (.ifCond .gt 14, 3) := by decide +kernel
theorem dX11_partOfFraction_74 : decode cX11_partOfFraction 74 = .ok (.iload 4, 2) := by decide +kernel
theorem dX11_partOfFraction_76 : decode cX11_partOfFraction 76 = .ok (.ifCond .ne 7, 3) := by decide +kernel
theorem dX11_partOfFraction_79 : decode cX11_partOfFraction 79 = .ok (.lload_n 0, 1) := by decide +kernel
theorem dX11_partOfFraction_80 : decode cX11_partOfFraction 80 = .ok (.goto 4, 3) := by decide +kernel
theorem dX11_partOfFraction_83 : decode cX11_partOfFraction 83 = .ok (.lload_n 2, 1) := by decide +kernel
theorem dX11_partOfFraction_84 : decode cX11_partOfFraction 84 = .ok (.lreturn, 1) := by decide +kernel
theorem dX11_partOfFraction_85 : decode cX11_partOfFraction 85 = .ok (.iload 4, 2) := by decide +kernel
theorem dX11_partOfFraction_87 : decode cX11_partOfFraction 87 = .ok (.ifCond .ne 10, 3) := by decide +kernel
theorem dX11_partOfFraction_90 : decode cX11_partOfFraction 90 = .ok (.lload_n 0, 1) := by decide +kernel
theorem dX11_partOfFraction_91 : decode cX11_partOfFraction 91 = .ok (.lload 5, 2) := by decide +kernel
theorem dX11_partOfFraction_93 : decode cX11_partOfFraction 93 = .ok (.ldiv, 1) := by decide +kernel
theorem dX11_partOfFraction_94 : decode cX11_partOfFraction 94 = .ok (.goto 7, 3) := by decide +kernel
theorem dX11_partOfFraction_97 : decode cX11_partOfFraction 97 = .ok (.lload_n 2, 1) := by decide +kernel
theorem dX11_partOfFraction_98 : decode cX11_partOfFraction 98 = .ok (.lload 5, 2) := by decide +kernel
theorem dX11_partOfFraction_100 : decode cX11_partOfFraction 100 = .ok (.ldiv, 1) := by decide +kernel
theorem dX11_partOfFraction_101 : decode cX11_partOfFraction 101 = .ok (.lreturn, 1) := by decide +kernel
theorem dX12_init_0 : decode cX12_init 0 = .ok (.aload_n 0, 1) := by decide +kernel
theorem dX12_init_1 : decode cX12_init 1 = .ok (.invokespecial 3, 3) := by decide +kernel
theorem dX12_init_4 : decode cX12_init 4 = .ok (.aload_n 0, 1) := by decide +kernel
theorem dX12_init_5 : decode cX12_init 5 = .ok (.bipush 8, 2) := by decide +kernel
theorem dX12_init_7 : decode cX12_init 7 = .ok (.newarray .int, 2) := by decide +kernel
theorem dX12_init_9 : decode cX12_init 9 = .ok (.dup, 1) := by decide +kernel
theorem dX12_init_10 : decode cX12_init 10 = .ok (.iconst 0, 1) := by decide +kernel
theorem dX12_init_11 : decode cX12_init 11 = .ok (.iconst (-1), 1) := by decide +kernel
theorem dX12_init_12 : decode cX12_init 12 = .ok (.iastore, 1) := by decide +kernel
theorem dX12_init_13 : decode cX12_init 13 = .ok (.dup, 1) := by decide +kernel
theorem dX12_init_14 : decode cX12_init 14 = .ok (.iconst 1, 1) := by decide +kernel
theorem dX12_init_15 : decode cX12_init 15 = .ok (.iconst (-1), 1) := by decide +kernel
theorem dX12_init_16 : decode cX12_init 16 = .ok (.iastore, 1) := by decide +kernel
theorem dX12_init_17 : decode cX12_init 17 = .ok (.dup, 1) := by decide +kernel
theorem dX12_init_18 : decode cX12_init 18 = .ok (.iconst 2, 1) := by decide +kernel
theorem dX12_init_19 : decode cX12_init 19 = .ok (.iconst (-1), 1) := by decide +kernel
theorem dX12_init_20 : decode cX12_init 20 = .ok (.iastore, 1) := by decide +kernel
theorem dX12_init_21 : decode cX12_init 21 = .ok (.dup, 1) := by decide +kernel
theorem dX12_init_22 : decode cX12_init 22 = .ok (.iconst 3, 1) := by decide +kernel
theorem dX12_init_23 : decode cX12_init 23 = .ok (.iconst (-1), 1) := by decide +kernel
theorem dX12_init_24 : decode cX12_init 24 = .ok (.iastore, 1) := by decide +kernel
theorem dX12_init_25 : decode cX12_init 25 = .ok (.dup, 1) := by decide +kernel
theorem dX12_init_26 : decode cX12_init 26 = .ok (.iconst 4, 1) := by decide +kernel
theorem dX12_init_27 : decode cX12_init 27 = .ok (.iconst (-1), 1) := by decide +kernel
theorem dX12_init_28 : decode cX12_init 28 = .ok (.iastore, 1) := by decide +kernel
theorem dX12_init_29 : decode cX12_init 29 = .ok (.dup, 1) := by decide +kernel
theorem dX12_init_30 : decode cX12_init 30 = .ok (.iconst 5, 1) := by decide +kernel
theorem dX12_init_31 : decode cX12_init 31 = .ok (.iconst (-1), 1) := by decide +kernel
theorem dX12_init_32 : decode cX12_init 32 = .ok (.iastore, 1) := by decide +kernel
theorem dX12_init_33 : decode cX12_init 33 = .ok (.dup, 1) := by decide +kernel
theorem dX12_init_34 : decode cX12_init 34 = .ok (.bipush 6, 2) := by decide +kernel
theorem dX12_init_36 : decode cX12_init 36 = .ok (.iconst (-1), 1) := by decide +kernel
theorem dX12_init_37 : decode cX12_init 37 = .ok (.iastore, 1) := by decide +kernel
theorem dX12_init_38 : decode cX12_init 38 = .ok (.dup, 1) := by decide +kernel
theorem dX12_init_39 : decode cX12_init 39 = .ok (.bipush 7, 2) := by decide +kernel
theorem dX12_init_41 : decode cX12_init 41 = .ok (.iconst (-1), 1) := by decide +kernel
theorem dX12_init_42 : decode cX12_init 42 = .ok (.iastore, 1) := by decide +kernel
theorem dX12_init_43 : decode cX12_init 43 = .ok (.putfield 9, 3) := by decide +kernel
theorem dX12_init_46 : decode cX12_init 46 = .ok (.aload_n 0, 1) := by decide +kernel
theorem dX12_init_47 : decode cX12_init 47 = .ok (.bipush 8, 2) := by decide +kernel
theorem dX12_init_49 : decode cX12_init 49 = .ok (.newarray .int, 2) := by decide +kernel
theorem dX12_init_51 : decode cX12_init 51 = .ok (.putfield 13, 3) := by decide +kernel
theorem dX12_init_54 : decode cX12_init 54 = .ok (.aload_n 0, 1) := by decide +kernel
theorem dX12_init_55 : decode cX12_init 55 = .ok (.sipush 320, 3) := by decide +kernel
theorem dX12_init_58 : decode cX12_init 58 = .ok (.newarray .int, 2) := by decide +kernel
theorem dX12_init_60 : decode cX12_init 60 = .ok (.putfield 16, 3) := by decide +kernel
theorem dX12_init_63 : decode cX12_init 63 = .ok (.aload_n 0, 1) := by decide +kernel
theorem dX12_init_64 : decode cX12_init 64 = .ok (.sipush 206, 3) := by decide +kernel
theorem dX12_init_67 : decode cX12_init 67 = .ok (.newarray .int, 2) := by decide +kernel
theorem dX12_init_69 : decode cX12_init 69 = .ok (.putfield 19, 3) := by decide +kernel
theorem dX12_init_72 : decode cX12_init 72 = .ok (.aload_n 0, 1) := by decide +kernel
theorem dX12_init_73 : decode cX12_init 73 = .ok (.sipush 206, 3) := by decide +kernel
theorem dX12_init_76 : decode cX12_init 76 = .ok (.newarray .int, 2) := by decide +kernel
theorem dX12_init_78 : decode cX12_init 78 = .ok (.putfield 22, 3) := by decide +kernel
theorem dX12_init_81 : decode cX12_init 81 = .ok (.aload_n 0, 1) := by decide +kernel
theorem dX12_init_82 : decode cX12_init 82 = .ok (.bipush 8, 2) := by decide +kernel
theorem dX12_init_84 : decode cX12_init 84 = .ok (.newarray .int, 2) := by decide +kernel
theorem dX12_init_86 : decode cX12_init 86 = .ok (.putfield 25, 3) := by decide +kernel
theorem dX12_init_89 : decode cX12_init 89 = .ok (.aload_n 0, 1) := by decide +kernel
theorem dX12_init_90 : decode cX12_init 90 = .ok (.sipush 600, 3) := by decide +kernel
theorem dX12_init_93 : decode cX12_init 93 = .ok (.newarray .int, 2) := by decide +kernel
theorem dX12_init_95 : decode cX12_init 95 = .ok (.putfield 28, 3) := by decide +kernel
theorem dX12_init_98 : decode cX12_init 98 = .ok (.aload_n 0, 1) := by decide +kernel
theorem dX12_init_99 : decode cX12_init 99 = .ok (.sipush 128, 3) := by decide +kernel
theorem dX12_init_102 : decode cX12_init 102 = .ok (.newarray .long, 2) := by decide +kernel
theorem dX12_init_104 : decode cX12_init 104 = .ok (.putfield 31, 3) := by decide +kernel
theorem dX12_init_107 : decode cX12_init 107 = .ok (.aload_n 0, 1) := by decide +kernel
theorem dX12_init_108 : decode cX12_init 108 = .ok (.sipush 128, 3) := by decide +kernel
theorem dX12_init_111 : decode cX12_init 111 = .ok (.newarray .long, 2) := by decide +kernel
theorem dX12_init_113 : decode cX12_init 113 = .ok (.putfield 35, 3) := by decide +kernel
theorem dX12_init_116 : decode cX12_init 116 = .ok (.aload_n 0, 1) := by decide +kernel
theorem dX12_init_117 : decode cX12_init 117 = .ok (.sipush 128, 3) := by decide +kernel
theorem dX12_init_120 : decode cX12_init 120 = .ok (.newarray .long, 2) := by decide +kernel
theorem dX12_init_122 : decode cX12_init 122 = .ok (.putfield 38, 3) := by decide +kernel
theorem dX12_init_125 : decode cX12_init 125 = .ok (.aload_n 0, 1) := by decide +kernel
theorem dX12_init_126 : decode cX12_init 126 = .ok (.sipush 128, 3) := by decide +kernel
theorem dX12_init_129 : decode cX12_init 129 = .ok (.newarray .long, 2) := by decide +kernel
theorem dX12_init_131 : decode cX12_init 131 = .ok (.putfield 41, 3) := by decide +kernel
theorem dX12_init_134 : decode cX12_init 134 = .ok (.aload_n 0, 1) := by decide +kernel
theorem dX12_init_135 : decode cX12_init 135 = .ok (.bipush 9, 2) := by decide +kernel
theorem dX12_init_137 : decode cX12_init 137 = .ok (.newarray .long, 2) := by decide +kernel
theorem dX12_init_139 : decode cX12_init 139 = .ok (.putfield 44, 3) := by decide +kernel
theorem dX12_init_142 : decode cX12_init 142 = .ok (.aload_n 0, 1) := by decide +kernel
theorem dX12_init_143 : decode cX12_init 143 = .ok (.iconst 2, 1) := by decide +kernel
theorem dX12_init_144 : decode cX12_init 144 = .ok (.newarray .boolean, 2) := by decide +kernel
theorem dX12_init_146 : decode cX12_init 146 = .ok (.putfield 47, 3) := by decide +kernel
theorem dX12_init_149 : decode cX12_init 149 = .ok (.aload_n 0, 1) := by decide +kernel
theorem dX12_init_150 : decode cX12_init 150 = .ok (.sipush 412, 3) := by decide +kernel
theorem dX12_init_153 : decode cX12_init 153 = .ok (.newarray .int, 2) := by decide +kernel
theorem dX12_init_155 : decode cX12_init 155 = .ok (.putfield 51, 3) := by decide +kernel
theorem dX12_init_158 : decode cX12_init 158 = .ok (.aload_n 0, 1) := by decide +kernel
theorem dX12_init_159 : decode cX12_init 159 = .ok (.bipush 16, 2) := by decide +kernel
theorem dX12_init_161 : decode cX12_init 161 = .ok (.newarray .int, 2) := by decide +kernel
theorem dX12_init_163 : decode cX12_init 163 = .ok (.putfield 54, 3) := by decide +kernel
theorem dX12_init_166 : decode cX12_init 166 = .ok (.aload_n 0, 1) := by decide +kernel
theorem dX12_init_167 : decode cX12_init 167 = .ok (.bipush 16, 2) := by decide +kernel
theorem dX12_init_169 : decode cX12_init 169 = .ok (.newarray .int, 2) := by decide +kernel
theorem dX12_init_171 : decode cX12_init 171 = .ok (.putfield 57, 3) := by decide +kernel
theorem dX12_init_174 : decode cX12_init 174 = .ok (.return_, 1) := by decide +kernel
theorem dX12_in_0 : decode cX12_in 0 = .ok (.lload_n 0, 1) := by decide +kernel
theorem dX12_in_1 : decode cX12_in 1 = .ok (.lload_n 2, 1) := by decide +kernel
theorem dX12_in_2 : decode cX12_in 2 = .ok (.lcmp, 1) := by decide +kernel
theorem dX12_in_3 : decode cX12_in 3 = .ok (.ifCond .lt 14, 3) := by decide +kernel
theorem dX12_in_6 : decode cX12_in 6 = .ok (.lload_n 0, 1) := by decide +kernel
theorem dX12_in_7 : decode cX12_in 7 = .ok (.lload 4, 2) := by decide +kernel
theorem dX12_in_9 : decode cX12_in 9 = .ok (.lcmp, 1) := by decide +kernel
theorem dX12_in_10 : decode cX12_in 10 = .ok (.ifCond .gt 7, 3) := by decide +kernel
theorem dX12_in_13 : decode cX12_in 13 = .ok (.iconst 1, 1) := by decide +kernel
theorem dX12_in_14 : decode cX12_in 14 = .ok (.goto 4, 3) := by decide +kernel
theorem dX12_in_17 : decode cX12_in 17 = .ok (.iconst 0, 1) := by decide +kernel
theorem dX12_in_18 : decode cX12_in 18 = .ok (.ireturn, 1) := by decide +kernel
theorem dX12_finding_0 : decode cX12_finding 0 = .ok (.aload_n 0, 1) := by decide +kernel
theorem dX12_finding_1 : decode cX12_finding 1 = .ok (.iload_n 1, 1) := by decide +kernel
theorem dX12_finding_2 : decode cX12_finding 2 = .ok (.putfield 64, 3) := by decide +kernel
theorem dX12_finding_5 : decode cX12_finding 5 = .ok (.ldc2_w 67, 3) := by decide +kernel
theorem dX12_finding_8 : decode cX12_finding 8 = .ok (.iload_n 1, 1) := by decide +kernel
theorem dX12_finding_9 : decode cX12_finding 9 = .ok (.i2l, 1) := by decide +kernel
theorem dX12_finding_10 : decode cX12_finding 10 = .ok (.lsub, 1) := by decide +kernel
theorem dX12_finding_11 : decode cX12_finding 11 = .ok (.lreturn, 1) := by decide +kernel
theorem dX12_isRow_0 : decode cX12_isRow 0 = .ok (.iload_n 0, 1) := by decide +kernel
theorem dX12_isRow_1 : decode cX12_isRow 1 = .ok (.i2l, 1) := by decide +kernel
theorem dX12_isRow_2 : decode cX12_isRow 2 = .ok (.lconst 0, 1) := by decide +kernel
theorem dX12_isRow_3 : decode cX12_isRow 3 = .ok (.ldc2_w 69, 3) := by decide +kernel
theorem dX12_isRow_6 : decode cX12_isRow 6 = .ok (.invokestatic 71, 3) := by decide +kernel
theorem dX12_isRow_9 : decode cX12_isRow 9 = .ok (.ireturn, 1) := by decide +kernel
theorem dX12_row_0 : decode cX12_row 0 = .ok (.aload_n 0, 1) := by decide +kernel
theorem dX12_row_1 : decode cX12_row 1 = .ok (.iconst 0, 1) := by decide +kernel
theorem dX12_row_2 : decode cX12_row 2 = .ok (.putfield 60, 3) := by decide +kernel
theorem dX12_row_5 : decode cX12_row 5 = .ok (.iload_n 1, 1) := by decide +kernel
theorem dX12_row_6 : decode cX12_row 6 = .ok (.invokestatic 75, 3) := by decide +kernel
theorem dX12_row_9 : decode cX12_row 9 = .ok (.ifCond .eq 21, 3) := by decide +kernel
theorem dX12_row_12 : decode cX12_row 12 = .ok (.iload_n 2, 1) := by decide +kernel
theorem dX12_row_13 : decode cX12_row 13 = .ok (.i2l, 1) := by decide +kernel
theorem dX12_row_14 : decode cX12_row 14 = .ok (.lconst 0, 1) := by decide +kernel
theorem dX12_row_15 : decode cX12_row 15 = .ok (.ldc2_w 79, 3) := by decide +kernel
theorem dX12_row_18 : decode cX12_row 18 = .ok (.invokestatic 71, 3) := by decide +kernel
theorem dX12_row_21 : decode cX12_row 21 = .ok (.ifCond .eq 9, 3) := by decide +kernel
theorem dX12_row_24 : decode cX12_row 24 = .ok (.iload_n 3, 1) := by decide +kernel
theorem dX12_row_25 : decode cX12_row 25 = .ok (.bipush 40, 2) := by decide +kernel
theorem dX12_row_27 : decode cX12_row 27 = .ok (.if_icmp .le 7, 3) := by decide +kernel
theorem dX12_row_30 : decode cX12_row 30 = .ok (.ldc2_w 81, 3) := by decide +kernel
theorem dX12_row_33 : decode cX12_row 33 = .ok (.lreturn, 1) := by decide +kernel
theorem dX12_row_34 : decode cX12_row 34 = .ok (.aload_n 0, 1) := by decide +kernel
theorem dX12_row_35 : decode cX12_row 35 = .ok (.iconst 0, 1) := by decide +kernel
theorem dX12_row_36 : decode cX12_row 36 = .ok (.putfield 64, 3) := by decide +kernel
theorem dX12_row_39 : decode cX12_row 39 = .ok (.iload_n 3, 1) := by decide +kernel
theorem dX12_row_40 : decode cX12_row 40 = .ok (.ifCond .ge 9, 3) := by decide +kernel
theorem dX12_row_43 : decode cX12_row 43 = .ok (.aload_n 0, 1) := by decide +kernel
theorem dX12_row_44 : decode cX12_row 44 = .ok (.iconst 4, 1) := by decide +kernel
theorem dX12_row_45 : decode cX12_row 45 = .ok (.invokevirtual 83, 3) := by decide +kernel
theorem dX12_row_48 : decode cX12_row 48 = .ok (.lreturn, 1) := by decide +kernel
theorem dX12_row_49 : decode cX12_row 49 = .ok (.aload_n 0, 1) := by decide +kernel
theorem dX12_row_50 : decode cX12_row 50 = .ok (.getfield 9, 3) := by decide +kernel
theorem dX12_row_53 : decode cX12_row 53 = .ok (.iload_n 1, 1) := by decide +kernel
theorem dX12_row_54 : decode cX12_row 54 = .ok (.iload_n 2, 1) := by decide +kernel
theorem dX12_row_55 : decode cX12_row 55 = .ok (.iastore, 1) := by decide +kernel
theorem dX12_row_56 : decode cX12_row 56 = .ok (.aload_n 0, 1) := by decide +kernel
theorem dX12_row_57 : decode cX12_row 57 = .ok (.getfield 13, 3) := by decide +kernel
theorem dX12_row_60 : decode cX12_row 60 = .ok (.iload_n 1, 1) := by decide +kernel
theorem dX12_row_61 : decode cX12_row 61 = .ok (.iload_n 3, 1) := by decide +kernel
theorem dX12_row_62 : decode cX12_row 62 = .ok (.iastore, 1) := by decide +kernel
theorem dX12_row_63 : decode cX12_row 63 = .ok (.iconst 0, 1) := by decide +kernel
theorem dX12_row_64 : decode cX12_row 64 = .ok (.istore 4, 2) := by decide +kernel
theorem dX12_row_66 : decode cX12_row 66 = .ok (.iload 4, 2) := by decide +kernel
theorem dX12_row_68 : decode cX12_row 68 = .ok (.bipush 40, 2) := by decide +kernel
theorem dX12_row_70 : decode cX12_row 70 = .ok (.if_icmp .ge 22, 3) := by decide +kernel
theorem dX12_row_73 : decode cX12_row 73 = .ok (.aload_n 0, 1) := by decide +kernel
theorem dX12_row_74 : decode cX12_row 74 = .ok (.getfield 16, 3) := by decide +kernel
theorem dX12_row_77 : decode cX12_row 77 = .ok (.bipush 40, 2) := by decide +kernel
theorem dX12_row_79 : decode cX12_row 79 = .ok (.iload_n 1, 1) := by decide +kernel
theorem dX12_row_80 : decode cX12_row 80 = .ok (.imul, 1) := by decide +kernel
theorem dX12_row_81 : decode cX12_row 81 = .ok (.iload 4, 2) := by decide +kernel
theorem dX12_row_83 : decode cX12_row 83 = .ok (.iadd, 1) := by decide +kernel
theorem dX12_row_84 : decode cX12_row 84 = .ok (.iconst 0, 1) := by decide +kernel
theorem dX12_row_85 : decode cX12_row 85 = .ok (.iastore, 1) := by decide +kernel
theorem dX12_row_86 : decode cX12_row 86 = .ok (.iinc 4 1, 3) := by decide +kernel
theorem dX12_row_89 : decode cX12_row 89 = .ok (.goto (-23), 3) := by decide +kernel
theorem dX12_row_92 : decode cX12_row 92 = .ok (.iload_n 3, 1) := by decide +kernel
theorem dX12_row_93 : decode cX12_row 93 = .ok (.i2l, 1) := by decide +kernel
theorem dX12_row_94 : decode cX12_row 94 = .ok (.lreturn, 1) := by decide +kernel
theorem dX12_set_0 : decode cX12_set 0 = .ok (.aload_n 0, 1) := by decide +kernel
theorem dX12_set_1 : decode cX12_set 1 = .ok (.iconst 0, 1) := by decide +kernel
theorem dX12_set_2 : decode cX12_set 2 = .ok (.putfield 60, 3) := by decide +kernel
theorem dX12_set_5 : decode cX12_set 5 = .ok (.iload_n 1, 1) := by decide +kernel
theorem dX12_set_6 : decode cX12_set 6 = .ok (.invokestatic 75, 3) := by decide +kernel
theorem dX12_set_9 : decode cX12_set 9 = .ok (.ifCond .ne 7, 3) := by decide +kernel
theorem dX12_set_12 : decode cX12_set 12 = .ok (.ldc2_w 81, 3) := by decide +kernel
theorem dX12_set_15 : decode cX12_set 15 = .ok (.lreturn, 1) := by decide +kernel
theorem dX12_set_16 : decode cX12_set 16 = .ok (.aload_n 0, 1) := by decide +kernel
theorem dX12_set_17 : decode cX12_set 17 = .ok (.iconst 0, 1) := by decide +kernel
theorem dX12_set_18 : decode cX12_set 18 = .ok (.putfield 64, 3) := by decide +kernel
theorem dX12_set_21 : decode cX12_set 21 = .ok (.aload_n 0, 1) := by decide +kernel
theorem dX12_set_22 : decode cX12_set 22 = .ok (.getfield 9, 3) := by decide +kernel
theorem dX12_set_25 : decode cX12_set 25 = .ok (.iload_n 1, 1) := by decide +kernel
theorem dX12_set_26 : decode cX12_set 26 = .ok (.iaload, 1) := by decide +kernel
theorem dX12_set_27 : decode cX12_set 27 = .ok (.ifCond .ge 9, 3) := by decide +kernel
theorem dX12_set_30 : decode cX12_set 30 = .ok (.aload_n 0, 1) := by decide +kernel
theorem dX12_set_31 : decode cX12_set 31 = .ok (.iconst 1, 1) := by decide +kernel
theorem dX12_set_32 : decode cX12_set 32 = .ok (.invokevirtual 83, 3) := by decide +kernel
theorem dX12_set_35 : decode cX12_set 35 = .ok (.lreturn, 1) := by decide +kernel
theorem dX12_set_36 : decode cX12_set 36 = .ok (.iload_n 2, 1) := by decide +kernel
theorem dX12_set_37 : decode cX12_set 37 = .ok (.i2l, 1) := by decide +kernel
theorem dX12_set_38 : decode cX12_set 38 = .ok (.lconst 0, 1) := by decide +kernel
theorem dX12_set_39 : decode cX12_set 39 = .ok (.aload_n 0, 1) := by decide +kernel
theorem dX12_set_40 : decode cX12_set 40 = .ok (.getfield 13, 3) := by decide +kernel
theorem dX12_set_43 : decode cX12_set 43 = .ok (.iload_n 1, 1) := by decide +kernel
theorem dX12_set_44 : decode cX12_set 44 = .ok (.iaload, 1) := by decide +kernel
theorem dX12_set_45 : decode cX12_set 45 = .ok (.iconst 1, 1) := by decide +kernel
theorem dX12_set_46 : decode cX12_set 46 = .ok (.isub, 1) := by decide +kernel
theorem dX12_set_47 : decode cX12_set 47 = .ok (.i2l, 1) := by decide +kernel
theorem dX12_set_48 : decode cX12_set 48 = .ok (.invokestatic 71, 3) := by decide +kernel
theorem dX12_set_51 : decode cX12_set 51 = .ok (.ifCond .ne 9, 3) := by decide +kernel
theorem dX12_set_54 : decode cX12_set 54 = .ok (.aload_n 0, 1) := by decide +kernel
theorem dX12_set_55 : decode cX12_set 55 = .ok (.iconst 2, 1) := by decide +kernel
theorem dX12_set_56 : decode cX12_set 56 = .ok (.invokevirtual 83, 3) := by decide +kernel
theorem dX12_set_59 : decode cX12_set 59 = .ok (.lreturn, 1) := by decide +kernel
theorem dX12_set_60 : decode cX12_set 60 = .ok (.aload_n 0, 1) := by decide +kernel
theorem dX12_set_61 : decode cX12_set 61 = .ok (.getfield 16, 3) := by decide +kernel
theorem dX12_set_64 : decode cX12_set 64 = .ok (.bipush 40, 2) := by decide +kernel
theorem dX12_set_66 : decode cX12_set 66 = .ok (.iload_n 1, 1) := by decide +kernel
theorem dX12_set_67 : decode cX12_set 67 = .ok (.imul, 1) := by decide +kernel
theorem dX12_set_68 : decode cX12_set 68 = .ok (.iload_n 2, 1) := by decide +kernel
theorem dX12_set_69 : decode cX12_set 69 = .ok (.iadd, 1) := by decide +kernel
theorem dX12_set_70 : decode cX12_set 70 = .ok (.aload_n 0, 1) := by decide +kernel
theorem dX12_set_71 : decode cX12_set 71 = .ok (.getfield 9, 3) := by decide +kernel
theorem dX12_set_74 : decode cX12_set 74 = .ok (.iload_n 1, 1) := by decide +kernel
theorem dX12_set_75 : decode cX12_set 75 = .ok (.iaload, 1) := by decide +kernel
theorem dX12_set_76 : decode cX12_set 76 = .ok (.ifCond .ne 8, 3) := by decide +kernel
theorem dX12_set_79 : decode cX12_set 79 = .ok (.iload_n 3, 1) := by decide +kernel
theorem dX12_set_80 : decode cX12_set 80 = .ok (.i2b, 1) := by decide +kernel
theorem dX12_set_81 : decode cX12_set 81 = .ok (.goto 19, 3) := by decide +kernel
theorem dX12_set_84 : decode cX12_set 84 = .ok (.aload_n 0, 1) := by decide +kernel
theorem dX12_set_85 : decode cX12_set 85 = .ok (.getfield 9, 3) := by decide +kernel
theorem dX12_set_88 : decode cX12_set 88 = .ok (.iload_n 1, 1) := by decide +kernel
theorem dX12_set_89 : decode cX12_set 89 = .ok (.iaload, 1) := by decide +kernel
theorem dX12_set_90 : decode cX12_set 90 = .ok (.iconst 1, 1) := by decide +kernel
theorem dX12_set_91 : decode cX12_set 91 = .ok (.if_icmp .ne 8, 3) := by decide +kernel
theorem dX12_set_94 : decode cX12_set 94 = .ok (.iload_n 3, 1) := by decide +kernel
theorem dX12_set_95 : decode cX12_set 95 = .ok (.i2s, 1) := by decide +kernel
theorem dX12_set_96 : decode cX12_set 96 = .ok (.goto 4, 3) := by decide +kernel
theorem dX12_set_99 : decode cX12_set 99 = .ok (.iload_n 3, 1) := by decide +kernel
theorem dX12_set_100 : decode cX12_set 100 = .ok (.iastore, 1) := by decide +kernel
theorem dX12_set_101 : decode cX12_set 101 = .ok (.aload_n 0, 1) := by decide +kernel
theorem dX12_set_102 : decode cX12_set 102 = .ok (.getfield 16, 3) := by decide +kernel
theorem dX12_set_105 : decode cX12_set 105 = .ok (.bipush 40, 2) := by decide +kernel
theorem dX12_set_107 : decode cX12_set 107 = .ok (.iload_n 1, 1) := by decide +kernel
theorem dX12_set_108 : decode cX12_set 108 = .ok (.imul, 1) := by decide +kernel
theorem dX12_set_109 : decode cX12_set 109 = .ok (.iload_n 2, 1) := by decide +kernel
theorem dX12_set_110 : decode cX12_set 110 = .ok (.iadd, 1) := by decide +kernel
theorem dX12_set_111 : decode cX12_set 111 = .ok (.iaload, 1) := by decide +kernel
theorem dX12_set_112 : decode cX12_set 112 = .ok (.i2l, 1) := by decide +kernel
theorem dX12_set_113 : decode cX12_set 113 = .ok (.lreturn, 1) := by decide +kernel
theorem dX12_copy_0 : decode cX12_copy 0 = .ok (.aload_n 0, 1) := by decide +kernel
theorem dX12_copy_1 : decode cX12_copy 1 = .ok (.iconst 0, 1) := by decide +kernel
theorem dX12_copy_2 : decode cX12_copy 2 = .ok (.putfield 60, 3) := by decide +kernel
theorem dX12_copy_5 : decode cX12_copy 5 = .ok (.iload_n 1, 1) := by decide +kernel
theorem dX12_copy_6 : decode cX12_copy 6 = .ok (.invokestatic 75, 3) := by decide +kernel
theorem dX12_copy_9 : decode cX12_copy 9 = .ok (.ifCond .eq 10, 3) := by decide +kernel
theorem dX12_copy_12 : decode cX12_copy 12 = .ok (.iload_n 3, 1) := by decide +kernel
theorem dX12_copy_13 : decode cX12_copy 13 = .ok (.invokestatic 75, 3) := by decide +kernel
theorem dX12_copy_16 : decode cX12_copy 16 = .ok (.ifCond .ne 7, 3) := by decide +kernel
theorem dX12_copy_19 : decode cX12_copy 19 = .ok (.ldc2_w 81, 3) := by decide +kernel
theorem dX12_copy_22 : decode cX12_copy 22 = .ok (.lreturn, 1) := by decide +kernel
theorem dX12_copy_23 : decode cX12_copy 23 = .ok (.aload_n 0, 1) := by decide +kernel
theorem dX12_copy_24 : decode cX12_copy 24 = .ok (.iconst 0, 1) := by decide +kernel
theorem dX12_copy_25 : decode cX12_copy 25 = .ok (.putfield 64, 3) := by decide +kernel
theorem dX12_copy_28 : decode cX12_copy 28 = .ok (.aload_n 0, 1) := by decide +kernel
theorem dX12_copy_29 : decode cX12_copy 29 = .ok (.getfield 9, 3) := by decide +kernel
theorem dX12_copy_32 : decode cX12_copy 32 = .ok (.iload_n 1, 1) := by decide +kernel
theorem dX12_copy_33 : decode cX12_copy 33 = .ok (.iaload, 1) := by decide +kernel
theorem dX12_copy_34 : decode cX12_copy 34 = .ok (.ifCond .lt 12, 3) := by decide +kernel
theorem dX12_copy_37 : decode cX12_copy 37 = .ok (.aload_n 0, 1) := by decide +kernel
theorem dX12_copy_38 : decode cX12_copy 38 = .ok (.getfield 9, 3) := by decide +kernel
theorem dX12_copy_41 : decode cX12_copy 41 = .ok (.iload_n 3, 1) := by decide +kernel
theorem dX12_copy_42 : decode cX12_copy 42 = .ok (.iaload, 1) := by decide +kernel
theorem dX12_copy_43 : decode cX12_copy 43 = .ok (.ifCond .ge 9, 3) := by decide +kernel
theorem dX12_copy_46 : decode cX12_copy 46 = .ok (.aload_n 0, 1) := by decide +kernel
theorem dX12_copy_47 : decode cX12_copy 47 = .ok (.iconst 1, 1) := by decide +kernel
theorem dX12_copy_48 : decode cX12_copy 48 = .ok (.invokevirtual 83, 3) := by decide +kernel
theorem dX12_copy_51 : decode cX12_copy 51 = .ok (.lreturn, 1) := by decide +kernel
theorem dX12_copy_52 : decode cX12_copy 52 = .ok (.aload_n 0, 1) := by decide +kernel
theorem dX12_copy_53 : decode cX12_copy 53 = .ok (.getfield 9, 3) := by decide +kernel
theorem dX12_copy_56 : decode cX12_copy 56 = .ok (.iload_n 1, 1) := by decide +kernel
theorem dX12_copy_57 : decode cX12_copy 57 = .ok (.iaload, 1) := by decide +kernel
theorem dX12_copy_58 : decode cX12_copy 58 = .ok (.aload_n 0, 1) := by decide +kernel
theorem dX12_copy_59 : decode cX12_copy 59 = .ok (.getfield 9, 3) := by decide +kernel
theorem dX12_copy_62 : decode cX12_copy 62 = .ok (.iload_n 3, 1) := by decide +kernel
theorem dX12_copy_63 : decode cX12_copy 63 = .ok (.iaload, 1) := by decide +kernel
theorem dX12_copy_64 : decode cX12_copy 64 = .ok (.if_icmp .eq 9, 3) := by decide +kernel
theorem dX12_copy_67 : decode cX12_copy 67 = .ok (.aload_n 0, 1) := by decide +kernel
theorem dX12_copy_68 : decode cX12_copy 68 = .ok (.iconst 5, 1) := by decide +kernel
theorem dX12_copy_69 : decode cX12_copy 69 = .ok (.invokevirtual 83, 3) := by decide +kernel
theorem dX12_copy_72 : decode cX12_copy 72 = .ok (.lreturn, 1) := by decide +kernel
theorem dX12_copy_73 : decode cX12_copy 73 = .ok (.iload_n 2, 1) := by decide +kernel
theorem dX12_copy_74 : decode cX12_copy 74 = .ok (.ifCond .lt 48, 3) := by decide +kernel
theorem dX12_copy_77 : decode cX12_copy 77 = .ok (.iload 4, 2) := by decide +kernel
theorem dX12_copy_79 : decode cX12_copy 79 = .ok (.ifCond .lt 43, 3) := by decide +kernel
theorem dX12_copy_82 : decode cX12_copy 82 = .ok (.iload 5, 2) := by decide +kernel
theorem dX12_copy_84 : decode cX12_copy 84 = .ok (.ifCond .lt 38, 3) := by decide +kernel
theorem dX12_copy_87 : decode cX12_copy 87 = .ok (.iload_n 2, 1) := by decide +kernel
theorem dX12_copy_88 : decode cX12_copy 88 = .ok (.i2l, 1) := by decide +kernel
theorem dX12_copy_89 : decode cX12_copy 89 = .ok (.iload 5, 2) := by decide +kernel
theorem dX12_copy_91 : decode cX12_copy 91 = .ok (.i2l, 1) := by decide +kernel
theorem dX12_copy_92 : decode cX12_copy 92 = .ok (.ladd, 1) := by decide +kernel
theorem dX12_copy_93 : decode cX12_copy 93 = .ok (.aload_n 0, 1) := by decide +kernel
theorem dX12_copy_94 : decode cX12_copy 94 = .ok (.getfield 13, 3) := by decide +kernel
theorem dX12_copy_97 : decode cX12_copy 97 = .ok (.iload_n 1, 1) := by decide +kernel
theorem dX12_copy_98 : decode cX12_copy 98 = .ok (.iaload, 1) := by decide +kernel
theorem dX12_copy_99 : decode cX12_copy 99 = .ok (.i2l, 1) := by decide +kernel
theorem dX12_copy_100 : decode cX12_copy 100 = .ok (.lcmp, 1) := by decide +kernel
theorem dX12_copy_101 : decode cX12_copy 101 = .ok (.ifCond .gt 21, 3) := by decide +kernel
theorem dX12_copy_104 : decode cX12_copy 104 = .ok (.iload 4, 2) := by decide +kernel
theorem dX12_copy_106 : decode cX12_copy 106 = .ok (.i2l, 1) := by decide +kernel
theorem dX12_copy_107 : decode cX12_copy 107 = .ok (.iload 5, 2) := by decide +kernel
theorem dX12_copy_109 : decode cX12_copy 109 = .ok (.i2l, 1) := by decide +kernel
theorem dX12_copy_110 : decode cX12_copy 110 = .ok (.ladd, 1) := by decide +kernel
theorem dX12_copy_111 : decode cX12_copy 111 = .ok (.aload_n 0, 1) := by decide +kernel
theorem dX12_copy_112 : decode cX12_copy 112 = .ok (.getfield 13, 3) := by decide +kernel
theorem dX12_copy_115 : decode cX12_copy 115 = .ok (.iload_n 3, 1) := by decide +kernel
theorem dX12_copy_116 : decode cX12_copy 116 = .ok (.iaload, 1) := by decide +kernel
theorem dX12_copy_117 : decode cX12_copy 117 = .ok (.i2l, 1) := by decide +kernel
theorem dX12_copy_118 : decode cX12_copy 118 = .ok (.lcmp, 1) := by decide +kernel
theorem dX12_copy_119 : decode cX12_copy 119 = .ok (.ifCond .le 9, 3) := by decide +kernel
theorem dX12_copy_122 : decode cX12_copy 122 = .ok (.aload_n 0, 1) := by decide +kernel
theorem dX12_copy_123 : decode cX12_copy 123 = .ok (.iconst 2, 1) := by decide +kernel
theorem dX12_copy_124 : decode cX12_copy 124 = .ok (.invokevirtual 83, 3) := by decide +kernel
theorem dX12_copy_127 : decode cX12_copy 127 = .ok (.lreturn, 1) := by decide +kernel
theorem dX12_copy_128 : decode cX12_copy 128 = .ok (.iload_n 2, 1) := by decide +kernel
theorem dX12_copy_129 : decode cX12_copy 129 = .ok (.iload 4, 2) := by decide +kernel
theorem dX12_copy_131 : decode cX12_copy 131 = .ok (.if_icmp .lt 7, 3) := by decide +kernel
theorem dX12_copy_134 : decode cX12_copy 134 = .ok (.iconst 1, 1) := by decide +kernel
theorem dX12_copy_135 : decode cX12_copy 135 = .ok (.goto 4, 3) := by decide +kernel
theorem dX12_copy_138 : decode cX12_copy 138 = .ok (.iconst 0, 1) := by decide +kernel
theorem dX12_copy_139 : decode cX12_copy 139 = .ok (.istore 6, 2) := by decide +kernel
theorem dX12_copy_141 : decode cX12_copy 141 = .ok (.iconst 0, 1) := by decide +kernel
theorem dX12_copy_142 : decode cX12_copy 142 = .ok (.istore 7, 2) := by decide +kernel
theorem dX12_copy_144 : decode cX12_copy 144 = .ok (.iload 7, 2) := by decide +kernel
theorem dX12_copy_146 : decode cX12_copy 146 = .ok (.iload 5, 2) := by decide +kernel
theorem dX12_copy_148 : decode cX12_copy 148 = .ok (.if_icmp .ge 57, 3) := by decide +kernel
theorem dX12_copy_151 : decode cX12_copy 151 = .ok (.iload 6, 2) := by decide +kernel
theorem dX12_copy_153 : decode cX12_copy 153 = .ok (.ifCond .eq 8, 3) := by decide +kernel
theorem dX12_copy_156 : decode cX12_copy 156 = .ok (.iload 7, 2) := by decide +kernel
theorem dX12_copy_158 : decode cX12_copy 158 = .ok (.goto 10, 3) := by decide +kernel
theorem dX12_copy_161 : decode cX12_copy 161 = .ok (.iload 5, 2) := by decide +kernel
theorem dX12_copy_163 : decode cX12_copy 163 = .ok (.iconst 1, 1) := by decide +kernel
theorem dX12_copy_164 : decode cX12_copy 164 = .ok (.isub, 1) := by decide +kernel
theorem dX12_copy_165 : decode cX12_copy 165 = .ok (.iload 7, 2) := by decide +kernel
theorem dX12_copy_167 : decode cX12_copy 167 = .ok (.isub, 1) := by decide +kernel
theorem dX12_copy_168 : decode cX12_copy 168 = .ok (.istore 8, 2) := by decide +kernel
theorem dX12_copy_170 : decode cX12_copy 170 = .ok (.aload_n 0, 1) := by decide +kernel
theorem dX12_copy_171 : decode cX12_copy 171 = .ok (.getfield 16, 3) := by decide +kernel
theorem dX12_copy_174 : decode cX12_copy 174 = .ok (.bipush 40, 2) := by decide +kernel
theorem dX12_copy_176 : decode cX12_copy 176 = .ok (.iload_n 3, 1) := by decide +kernel
theorem dX12_copy_177 : decode cX12_copy 177 = .ok (.imul, 1) := by decide +kernel
theorem dX12_copy_178 : decode cX12_copy 178 = .ok (.iload 4, 2) := by decide +kernel
theorem dX12_copy_180 : decode cX12_copy 180 = .ok (.iadd, 1) := by decide +kernel
theorem dX12_copy_181 : decode cX12_copy 181 = .ok (.iload 8, 2) := by decide +kernel
theorem dX12_copy_183 : decode cX12_copy 183 = .ok (.iadd, 1) := by decide +kernel
theorem dX12_copy_184 : decode cX12_copy 184 = .ok (.aload_n 0, 1) := by decide +kernel
theorem dX12_copy_185 : decode cX12_copy 185 = .ok (.getfield 16, 3) := by decide +kernel
theorem dX12_copy_188 : decode cX12_copy 188 = .ok (.bipush 40, 2) := by decide +kernel
theorem dX12_copy_190 : decode cX12_copy 190 = .ok (.iload_n 1, 1) := by decide +kernel
theorem dX12_copy_191 : decode cX12_copy 191 = .ok (.imul, 1) := by decide +kernel
theorem dX12_copy_192 : decode cX12_copy 192 = .ok (.iload_n 2, 1) := by decide +kernel
theorem dX12_copy_193 : decode cX12_copy 193 = .ok (.iadd, 1) := by decide +kernel
theorem dX12_copy_194 : decode cX12_copy 194 = .ok (.iload 8, 2) := by decide +kernel
theorem dX12_copy_196 : decode cX12_copy 196 = .ok (.iadd, 1) := by decide +kernel
theorem dX12_copy_197 : decode cX12_copy 197 = .ok (.iaload, 1) := by decide +kernel
theorem dX12_copy_198 : decode cX12_copy 198 = .ok (.iastore, 1) := by decide +kernel
theorem dX12_copy_199 : decode cX12_copy 199 = .ok (.iinc 7 1, 3) := by decide +kernel
theorem dX12_copy_202 : decode cX12_copy 202 = .ok (.goto (-58), 3) := by decide +kernel
theorem dX12_copy_205 : decode cX12_copy 205 = .ok (.iload 5, 2) := by decide +kernel
theorem dX12_copy_207 : decode cX12_copy 207 = .ok (.i2l, 1) := by decide +kernel
theorem dX12_copy_208 : decode cX12_copy 208 = .ok (.lreturn, 1) := by decide +kernel
theorem dX12_drop_0 : decode cX12_drop 0 = .ok (.aload_n 0, 1) := by decide +kernel
theorem dX12_drop_1 : decode cX12_drop 1 = .ok (.iconst 0, 1) := by decide +kernel
theorem dX12_drop_2 : decode cX12_drop 2 = .ok (.putfield 60, 3) := by decide +kernel
theorem dX12_drop_5 : decode cX12_drop 5 = .ok (.iload_n 1, 1) := by decide +kernel
theorem dX12_drop_6 : decode cX12_drop 6 = .ok (.invokestatic 75, 3) := by decide +kernel
theorem dX12_drop_9 : decode cX12_drop 9 = .ok (.ifCond .ne 7, 3) := by decide +kernel
theorem dX12_drop_12 : decode cX12_drop 12 = .ok (.ldc2_w 81, 3) := by decide +kernel
theorem dX12_drop_15 : decode cX12_drop 15 = .ok (.lreturn, 1) := by decide +kernel
theorem dX12_drop_16 : decode cX12_drop 16 = .ok (.aload_n 0, 1) := by decide +kernel
theorem dX12_drop_17 : decode cX12_drop 17 = .ok (.iconst 0, 1) := by decide +kernel
theorem dX12_drop_18 : decode cX12_drop 18 = .ok (.putfield 64, 3) := by decide +kernel
theorem dX12_drop_21 : decode cX12_drop 21 = .ok (.aload_n 0, 1) := by decide +kernel
theorem dX12_drop_22 : decode cX12_drop 22 = .ok (.getfield 9, 3) := by decide +kernel
theorem dX12_drop_25 : decode cX12_drop 25 = .ok (.iload_n 1, 1) := by decide +kernel
theorem dX12_drop_26 : decode cX12_drop 26 = .ok (.iaload, 1) := by decide +kernel
theorem dX12_drop_27 : decode cX12_drop 27 = .ok (.ifCond .ge 9, 3) := by decide +kernel
theorem dX12_drop_30 : decode cX12_drop 30 = .ok (.aload_n 0, 1) := by decide +kernel
theorem dX12_drop_31 : decode cX12_drop 31 = .ok (.iconst 1, 1) := by decide +kernel
theorem dX12_drop_32 : decode cX12_drop 32 = .ok (.invokevirtual 83, 3) := by decide +kernel
theorem dX12_drop_35 : decode cX12_drop 35 = .ok (.lreturn, 1) := by decide +kernel
theorem dX12_drop_36 : decode cX12_drop 36 = .ok (.aload_n 0, 1) := by decide +kernel
theorem dX12_drop_37 : decode cX12_drop 37 = .ok (.getfield 9, 3) := by decide +kernel
theorem dX12_drop_40 : decode cX12_drop 40 = .ok (.iload_n 1, 1) := by decide +kernel
theorem dX12_drop_41 : decode cX12_drop 41 = .ok (.iconst (-1), 1) := by decide +kernel
theorem dX12_drop_42 : decode cX12_drop 42 = .ok (.iastore, 1) := by decide +kernel
theorem dX12_drop_43 : decode cX12_drop 43 = .ok (.aload_n 0, 1) := by decide +kernel
theorem dX12_drop_44 : decode cX12_drop 44 = .ok (.getfield 13, 3) := by decide +kernel
theorem dX12_drop_47 : decode cX12_drop 47 = .ok (.iload_n 1, 1) := by decide +kernel
theorem dX12_drop_48 : decode cX12_drop 48 = .ok (.iaload, 1) := by decide +kernel
theorem dX12_drop_49 : decode cX12_drop 49 = .ok (.i2l, 1) := by decide +kernel
theorem dX12_drop_50 : decode cX12_drop 50 = .ok (.lreturn, 1) := by decide +kernel
theorem dX12_feed_0 : decode cX12_feed 0 = .ok (.aload_n 0, 1) := by decide +kernel
theorem dX12_feed_1 : decode cX12_feed 1 = .ok (.iconst 0, 1) := by decide +kernel
theorem dX12_feed_2 : decode cX12_feed 2 = .ok (.putfield 60, 3) := by decide +kernel
theorem dX12_feed_5 : decode cX12_feed 5 = .ok (.iload_n 3, 1) := by decide +kernel
theorem dX12_feed_6 : decode cX12_feed 6 = .ok (.i2l, 1) := by decide +kernel
theorem dX12_feed_7 : decode cX12_feed 7 = .ok (.lconst 1, 1) := by decide +kernel
theorem dX12_feed_8 : decode cX12_feed 8 = .ok (.ldc2_w 87, 3) := by decide +kernel
theorem dX12_feed_11 : decode cX12_feed 11 = .ok (.invokestatic 71, 3) := by decide +kernel
theorem dX12_feed_14 : decode cX12_feed 14 = .ok (.ifCond .ne 7, 3) := by decide +kernel
theorem dX12_feed_17 : decode cX12_feed 17 = .ok (.ldc2_w 81, 3) := by decide +kernel
theorem dX12_feed_20 : decode cX12_feed 20 = .ok (.lreturn, 1) := by decide +kernel
theorem dX12_feed_21 : decode cX12_feed 21 = .ok (.aload_n 0, 1) := by decide +kernel
theorem dX12_feed_22 : decode cX12_feed 22 = .ok (.getfield 89, 3) := by decide +kernel
theorem dX12_feed_25 : decode cX12_feed 25 = .ok (.iload_n 3, 1) := by decide +kernel
theorem dX12_feed_26 : decode cX12_feed 26 = .ok (.iadd, 1) := by decide +kernel
theorem dX12_feed_27 : decode cX12_feed 27 = .ok (.sipush 600, 3) := by decide +kernel
theorem dX12_feed_30 : decode cX12_feed 30 = .ok (.if_icmp .le 7, 3) := by decide +kernel
theorem dX12_feed_33 : decode cX12_feed 33 = .ok (.ldc2_w 92, 3) := by decide +kernel
theorem dX12_feed_36 : decode cX12_feed 36 = .ok (.lreturn, 1) := by decide +kernel
theorem dX12_feed_37 : decode cX12_feed 37 = .ok (.iload_n 3, 1) := by decide +kernel
theorem dX12_feed_38 : decode cX12_feed 38 = .ok (.iconst 1, 1) := by decide +kernel
theorem dX12_feed_39 : decode cX12_feed 39 = .ok (.isub, 1) := by decide +kernel
theorem dX12_feed_40 : decode cX12_feed 40 = .ok (.istore 4, 2) := by decide +kernel
theorem dX12_feed_42 : decode cX12_feed 42 = .ok (.iload 4, 2) := by decide +kernel
theorem dX12_feed_44 : decode cX12_feed 44 = .ok (.ifCond .lt 40, 3) := by decide +kernel
theorem dX12_feed_47 : decode cX12_feed 47 = .ok (.aload_n 0, 1) := by decide +kernel
theorem dX12_feed_48 : decode cX12_feed 48 = .ok (.getfield 28, 3) := by decide +kernel
theorem dX12_feed_51 : decode cX12_feed 51 = .ok (.aload_n 0, 1) := by decide +kernel
theorem dX12_feed_52 : decode cX12_feed 52 = .ok (.getfield 89, 3) := by decide +kernel
theorem dX12_feed_55 : decode cX12_feed 55 = .ok (.lload_n 1, 1) := by decide +kernel
theorem dX12_feed_56 : decode cX12_feed 56 = .ok (.bipush 8, 2) := by decide +kernel
theorem dX12_feed_58 : decode cX12_feed 58 = .ok (.iload 4, 2) := by decide +kernel
theorem dX12_feed_60 : decode cX12_feed 60 = .ok (.imul, 1) := by decide +kernel
theorem dX12_feed_61 : decode cX12_feed 61 = .ok (.lshr, 1) := by decide +kernel
theorem dX12_feed_62 : decode cX12_feed 62 = .ok (.ldc2_w 94, 3) := by decide +kernel
theorem dX12_feed_65 : decode cX12_feed 65 = .ok (.land, 1) := by decide +kernel
theorem dX12_feed_66 : decode cX12_feed 66 = .ok (.l2i, 1) := by decide +kernel
theorem dX12_feed_67 : decode cX12_feed 67 = .ok (.iastore, 1) := by decide +kernel
theorem dX12_feed_68 : decode cX12_feed 68 = .ok (.aload_n 0, 1) := by decide +kernel
theorem dX12_feed_69 : decode cX12_feed 69 = .ok (.dup, 1) := by decide +kernel
theorem dX12_feed_70 : decode cX12_feed 70 = .ok (.getfield 89, 3) := by decide +kernel
theorem dX12_feed_73 : decode cX12_feed 73 = .ok (.iconst 1, 1) := by decide +kernel
theorem dX12_feed_74 : decode cX12_feed 74 = .ok (.iadd, 1) := by decide +kernel
theorem dX12_feed_75 : decode cX12_feed 75 = .ok (.putfield 89, 3) := by decide +kernel
theorem dX12_feed_78 : decode cX12_feed 78 = .ok (.iinc 4 (-1), 3) := by decide +kernel
theorem dX12_feed_81 : decode cX12_feed 81 = .ok (.goto (-39), 3) := by decide +kernel
theorem dX12_feed_84 : decode cX12_feed 84 = .ok (.aload_n 0, 1) := by decide +kernel
theorem dX12_feed_85 : decode cX12_feed 85 = .ok (.getfield 89, 3) := by decide +kernel
theorem dX12_feed_88 : decode cX12_feed 88 = .ok (.i2l, 1) := by decide +kernel
theorem dX12_feed_89 : decode cX12_feed 89 = .ok (.lreturn, 1) := by decide +kernel
theorem dX12_byteAt_0 : decode cX12_byteAt 0 = .ok (.iload_n 1, 1) := by decide +kernel
theorem dX12_byteAt_1 : decode cX12_byteAt 1 = .ok (.aload_n 0, 1) := by decide +kernel
theorem dX12_byteAt_2 : decode cX12_byteAt 2 = .ok (.getfield 96, 3) := by decide +kernel
theorem dX12_byteAt_5 : decode cX12_byteAt 5 = .ok (.if_icmp .ge 12, 3) := by decide +kernel
theorem dX12_byteAt_8 : decode cX12_byteAt 8 = .ok (.aload_n 0, 1) := by decide +kernel
theorem dX12_byteAt_9 : decode cX12_byteAt 9 = .ok (.getfield 28, 3) := by decide +kernel
theorem dX12_byteAt_12 : decode cX12_byteAt 12 = .ok (.iload_n 1, 1) := by decide +kernel
theorem dX12_byteAt_13 : decode cX12_byteAt 13 = .ok (.iaload, 1) := by decide +kernel
theorem dX12_byteAt_14 : decode cX12_byteAt 14 = .ok (.goto 5, 3) := by decide +kernel
theorem dX12_byteAt_17 : decode cX12_byteAt 17 = .ok (.ldc 99, 2) := by decide +kernel
theorem dX12_byteAt_19 : decode cX12_byteAt 19 = .ok (.ireturn, 1) := by decide +kernel
theorem dX12_isLetter_0 : decode cX12_isLetter 0 = .ok (.iload_n 0, 1) := by decide +kernel
theorem dX12_isLetter_1 : decode cX12_isLetter 1 = .ok (.bipush 97, 2) := by decide +kernel
theorem dX12_isLetter_3 : decode cX12_isLetter 3 = .ok (.if_icmp .lt 13, 3) := by decide +kernel
theorem dX12_isLetter_6 : decode cX12_isLetter 6 = .ok (.iload_n 0, 1) := by decide +kernel
theorem dX12_isLetter_7 : decode cX12_isLetter 7 = .ok (.bipush 122, 2) := by decide +kernel
theorem dX12_isLetter_9 : decode cX12_isLetter 9 = .ok (.if_icmp .gt 7, 3) := by decide +kernel
theorem dX12_isLetter_12 : decode cX12_isLetter 12 = .ok (.iconst 1, 1) := by decide +kernel
theorem dX12_isLetter_13 : decode cX12_isLetter 13 = .ok (.goto 4, 3) := by decide +kernel
theorem dX12_isLetter_16 : decode cX12_isLetter 16 = .ok (.iconst 0, 1) := by decide +kernel
theorem dX12_isLetter_17 : decode cX12_isLetter 17 = .ok (.ireturn, 1) := by decide +kernel
theorem dX12_isFigure_0 : decode cX12_isFigure 0 = .ok (.iload_n 0, 1) := by decide +kernel
theorem dX12_isFigure_1 : decode cX12_isFigure 1 = .ok (.bipush 48, 2) := by decide +kernel
theorem dX12_isFigure_3 : decode cX12_isFigure 3 = .ok (.if_icmp .lt 13, 3) := by decide +kernel
theorem dX12_isFigure_6 : decode cX12_isFigure 6 = .ok (.iload_n 0, 1) := by decide +kernel
theorem dX12_isFigure_7 : decode cX12_isFigure 7 = .ok (.bipush 57, 2) := by decide +kernel
theorem dX12_isFigure_9 : decode cX12_isFigure 9 = .ok (.if_icmp .gt 7, 3) := by decide +kernel
theorem dX12_isFigure_12 : decode cX12_isFigure 12 = .ok (.iconst 1, 1) := by decide +kernel
theorem dX12_isFigure_13 : decode cX12_isFigure 13 = .ok (.goto 4, 3) := by decide +kernel
theorem dX12_isFigure_16 : decode cX12_isFigure 16 = .ok (.iconst 0, 1) := by decide +kernel
theorem dX12_isFigure_17 : decode cX12_isFigure 17 = .ok (.ireturn, 1) := by decide +kernel
theorem dX12_next_0 : decode cX12_next 0 = .ok (.aload_n 0, 1) := by decide +kernel
theorem dX12_next_1 : decode cX12_next 1 = .ok (.aload_n 0, 1) := by decide +kernel
theorem dX12_next_2 : decode cX12_next 2 = .ok (.getfield 100, 3) := by decide +kernel
theorem dX12_next_5 : decode cX12_next 5 = .ok (.invokevirtual 103, 3) := by decide +kernel
theorem dX12_next_8 : decode cX12_next 8 = .ok (.bipush 32, 2) := by decide +kernel
theorem dX12_next_10 : decode cX12_next 10 = .ok (.if_icmp .eq 16, 3) := by decide +kernel
theorem dX12_next_13 : decode cX12_next 13 = .ok (.aload_n 0, 1) := by decide +kernel
theorem dX12_next_14 : decode cX12_next 14 = .ok (.aload_n 0, 1) := by decide +kernel
theorem dX12_next_15 : decode cX12_next 15 = .ok (.getfield 100, 3) := by decide +kernel
theorem dX12_next_18 : decode cX12_next 18 = .ok (.invokevirtual 103, 3) := by decide +kernel
theorem dX12_next_21 : decode cX12_next 21 = .ok (.bipush 10, 2) := by decide +kernel
theorem dX12_next_23 : decode cX12_next 23 = .ok (.if_icmp .ne 16, 3) := by decide +kernel
theorem dX12_next_26 : decode cX12_next 26 = .ok (.aload_n 0, 1) := by decide +kernel
theorem dX12_next_27 : decode cX12_next 27 = .ok (.dup, 1) := by decide +kernel
theorem dX12_next_28 : decode cX12_next 28 = .ok (.getfield 100, 3) := by decide +kernel
theorem dX12_next_31 : decode cX12_next 31 = .ok (.iconst 1, 1) := by decide +kernel
theorem dX12_next_32 : decode cX12_next 32 = .ok (.iadd, 1) := by decide +kernel
theorem dX12_next_33 : decode cX12_next 33 = .ok (.putfield 100, 3) := by decide +kernel
theorem dX12_next_36 : decode cX12_next 36 = .ok (.goto (-36), 3) := by decide +kernel
theorem dX12_next_39 : decode cX12_next 39 = .ok (.aload_n 0, 1) := by decide +kernel
theorem dX12_next_40 : decode cX12_next 40 = .ok (.aload_n 0, 1) := by decide +kernel
theorem dX12_next_41 : decode cX12_next 41 = .ok (.getfield 100, 3) := by decide +kernel
theorem dX12_next_44 : decode cX12_next 44 = .ok (.putfield 107, 3) := by decide +kernel
theorem dX12_next_47 : decode cX12_next 47 = .ok (.aload_n 0, 1) := by decide +kernel
theorem dX12_next_48 : decode cX12_next 48 = .ok (.aload_n 0, 1) := by decide +kernel
theorem dX12_next_49 : decode cX12_next 49 = .ok (.getfield 100, 3) := by decide +kernel
theorem dX12_next_52 : decode cX12_next 52 = .ok (.invokevirtual 103, 3) := by decide +kernel
theorem dX12_next_55 : decode cX12_next 55 = .ok (.istore_n 1, 1) := by decide +kernel
theorem dX12_next_56 : decode cX12_next 56 = .ok (.iload_n 1, 1) := by decide +kernel
theorem dX12_next_57 : decode cX12_next 57 = .ok (.ldc 99, 2) := by decide +kernel
theorem dX12_next_59 : decode cX12_next 59 = .ok (.if_icmp .ne 11, 3) := by decide +kernel
theorem dX12_next_62 : decode cX12_next 62 = .ok (.aload_n 0, 1) := by decide +kernel
theorem dX12_next_63 : decode cX12_next 63 = .ok (.iconst 1, 1) := by decide +kernel
theorem dX12_next_64 : decode cX12_next 64 = .ok (.putfield 110, 3) := by decide +kernel
theorem dX12_next_67 : decode cX12_next 67 = .ok (.goto 129, 3) := by decide +kernel
theorem dX12_next_70 : decode cX12_next 70 = .ok (.iload_n 1, 1) := by decide +kernel
theorem dX12_next_71 : decode cX12_next 71 = .ok (.invokestatic 113, 3) := by decide +kernel
theorem dX12_next_74 : decode cX12_next 74 = .ok (.ifCond .eq 38, 3) := by decide +kernel
theorem dX12_next_77 : decode cX12_next 77 = .ok (.aload_n 0, 1) := by decide +kernel
theorem dX12_next_78 : decode cX12_next 78 = .ok (.aload_n 0, 1) := by decide +kernel
theorem dX12_next_79 : decode cX12_next 79 = .ok (.getfield 100, 3) := by decide +kernel
theorem dX12_next_82 : decode cX12_next 82 = .ok (.invokevirtual 103, 3) := by decide +kernel
theorem dX12_next_85 : decode cX12_next 85 = .ok (.invokestatic 113, 3) := by decide +kernel
theorem dX12_next_88 : decode cX12_next 88 = .ok (.ifCond .eq 16, 3) := by decide +kernel
theorem dX12_next_91 : decode cX12_next 91 = .ok (.aload_n 0, 1) := by decide +kernel
theorem dX12_next_92 : decode cX12_next 92 = .ok (.dup, 1) := by decide +kernel
theorem dX12_next_93 : decode cX12_next 93 = .ok (.getfield 100, 3) := by decide +kernel
theorem dX12_next_96 : decode cX12_next 96 = .ok (.iconst 1, 1) := by decide +kernel
theorem dX12_next_97 : decode cX12_next 97 = .ok (.iadd, 1) := by decide +kernel
theorem dX12_next_98 : decode cX12_next 98 = .ok (.putfield 100, 3) := by decide +kernel
theorem dX12_next_101 : decode cX12_next 101 = .ok (.goto (-24), 3) := by decide +kernel
theorem dX12_next_104 : decode cX12_next 104 = .ok (.aload_n 0, 1) := by decide +kernel
theorem dX12_next_105 : decode cX12_next 105 = .ok (.iconst 2, 1) := by decide +kernel
theorem dX12_next_106 : decode cX12_next 106 = .ok (.putfield 110, 3) := by decide +kernel
theorem dX12_next_109 : decode cX12_next 109 = .ok (.goto 87, 3) := by decide +kernel
theorem dX12_next_112 : decode cX12_next 112 = .ok (.iload_n 1, 1) := by decide +kernel
theorem dX12_next_113 : decode cX12_next 113 = .ok (.invokestatic 116, 3) := by decide +kernel
theorem dX12_next_116 : decode cX12_next 116 = .ok (.ifCond .eq 55, 3) := by decide +kernel
theorem dX12_next_119 : decode cX12_next 119 = .ok (.aload_n 0, 1) := by decide +kernel
theorem dX12_next_120 : decode cX12_next 120 = .ok (.aload_n 0, 1) := by decide +kernel
theorem dX12_next_121 : decode cX12_next 121 = .ok (.getfield 100, 3) := by decide +kernel
theorem dX12_next_124 : decode cX12_next 124 = .ok (.invokevirtual 103, 3) := by decide +kernel
theorem dX12_next_127 : decode cX12_next 127 = .ok (.invokestatic 116, 3) := by decide +kernel
theorem dX12_next_130 : decode cX12_next 130 = .ok (.ifCond .eq 16, 3) := by decide +kernel
theorem dX12_next_133 : decode cX12_next 133 = .ok (.aload_n 0, 1) := by decide +kernel
theorem dX12_next_134 : decode cX12_next 134 = .ok (.dup, 1) := by decide +kernel
theorem dX12_next_135 : decode cX12_next 135 = .ok (.getfield 100, 3) := by decide +kernel
theorem dX12_next_138 : decode cX12_next 138 = .ok (.iconst 1, 1) := by decide +kernel
theorem dX12_next_139 : decode cX12_next 139 = .ok (.iadd, 1) := by decide +kernel
theorem dX12_next_140 : decode cX12_next 140 = .ok (.putfield 100, 3) := by decide +kernel
theorem dX12_next_143 : decode cX12_next 143 = .ok (.goto (-24), 3) := by decide +kernel
theorem dX12_next_146 : decode cX12_next 146 = .ok (.aload_n 0, 1) := by decide +kernel
theorem dX12_next_147 : decode cX12_next 147 = .ok (.aload_n 0, 1) := by decide +kernel
theorem dX12_next_148 : decode cX12_next 148 = .ok (.getfield 100, 3) := by decide +kernel
theorem dX12_next_151 : decode cX12_next 151 = .ok (.aload_n 0, 1) := by decide +kernel
theorem dX12_next_152 : decode cX12_next 152 = .ok (.getfield 107, 3) := by decide +kernel
theorem dX12_next_155 : decode cX12_next 155 = .ok (.isub, 1) := by decide +kernel
theorem dX12_next_156 : decode cX12_next 156 = .ok (.iconst 3, 1) := by decide +kernel
theorem dX12_next_157 : decode cX12_next 157 = .ok (.if_icmp .le 7, 3) := by decide +kernel
theorem dX12_next_160 : decode cX12_next 160 = .ok (.iconst 0, 1) := by decide +kernel
theorem dX12_next_161 : decode cX12_next 161 = .ok (.goto 4, 3) := by decide +kernel
theorem dX12_next_164 : decode cX12_next 164 = .ok (.iconst 3, 1) := by decide +kernel
theorem dX12_next_165 : decode cX12_next 165 = .ok (.putfield 110, 3) := by decide +kernel
theorem dX12_next_168 : decode cX12_next 168 = .ok (.goto 28, 3) := by decide +kernel
theorem dX12_next_171 : decode cX12_next 171 = .ok (.aload_n 0, 1) := by decide +kernel
theorem dX12_next_172 : decode cX12_next 172 = .ok (.dup, 1) := by decide +kernel
theorem dX12_next_173 : decode cX12_next 173 = .ok (.getfield 100, 3) := by decide +kernel
theorem dX12_next_176 : decode cX12_next 176 = .ok (.iconst 1, 1) := by decide +kernel
theorem dX12_next_177 : decode cX12_next 177 = .ok (.iadd, 1) := by decide +kernel
theorem dX12_next_178 : decode cX12_next 178 = .ok (.putfield 100, 3) := by decide +kernel
theorem dX12_next_181 : decode cX12_next 181 = .ok (.aload_n 0, 1) := by decide +kernel
theorem dX12_next_182 : decode cX12_next 182 = .ok (.iload_n 1, 1) := by decide +kernel
theorem dX12_next_183 : decode cX12_next 183 = .ok (.bipush 59, 2) := by decide +kernel
theorem dX12_next_185 : decode cX12_next 185 = .ok (.if_icmp .ne 7, 3) := by decide +kernel
theorem dX12_next_188 : decode cX12_next 188 = .ok (.iconst 4, 1) := by decide +kernel
theorem dX12_next_189 : decode cX12_next 189 = .ok (.goto 4, 3) := by decide +kernel
theorem dX12_next_192 : decode cX12_next 192 = .ok (.iconst 0, 1) := by decide +kernel
theorem dX12_next_193 : decode cX12_next 193 = .ok (.putfield 110, 3) := by decide +kernel
theorem dX12_next_196 : decode cX12_next 196 = .ok (.aload_n 0, 1) := by decide +kernel
theorem dX12_next_197 : decode cX12_next 197 = .ok (.aload_n 0, 1) := by decide +kernel
theorem dX12_next_198 : decode cX12_next 198 = .ok (.getfield 100, 3) := by decide +kernel
theorem dX12_next_201 : decode cX12_next 201 = .ok (.putfield 119, 3) := by decide +kernel
theorem dX12_next_204 : decode cX12_next 204 = .ok (.return_, 1) := by decide +kernel
theorem dX12_bad_0 : decode cX12_bad 0 = .ok (.aload_n 0, 1) := by decide +kernel
theorem dX12_bad_1 : decode cX12_bad 1 = .ok (.getfield 122, 3) := by decide +kernel
theorem dX12_bad_4 : decode cX12_bad 4 = .ok (.ifCond .ne 16, 3) := by decide +kernel
theorem dX12_bad_7 : decode cX12_bad 7 = .ok (.aload_n 0, 1) := by decide +kernel
theorem dX12_bad_8 : decode cX12_bad 8 = .ok (.iload_n 1, 1) := by decide +kernel
theorem dX12_bad_9 : decode cX12_bad 9 = .ok (.putfield 122, 3) := by decide +kernel
theorem dX12_bad_12 : decode cX12_bad 12 = .ok (.aload_n 0, 1) := by decide +kernel
theorem dX12_bad_13 : decode cX12_bad 13 = .ok (.aload_n 0, 1) := by decide +kernel
theorem dX12_bad_14 : decode cX12_bad 14 = .ok (.getfield 107, 3) := by decide +kernel
theorem dX12_bad_17 : decode cX12_bad 17 = .ok (.putfield 125, 3) := by decide +kernel
theorem dX12_bad_20 : decode cX12_bad 20 = .ok (.return_, 1) := by decide +kernel
theorem dX12_must_0 : decode cX12_must 0 = .ok (.iload_n 1, 1) := by decide +kernel
theorem dX12_must_1 : decode cX12_must 1 = .ok (.ifCond .ne 8, 3) := by decide +kernel
theorem dX12_must_4 : decode cX12_must 4 = .ok (.aload_n 0, 1) := by decide +kernel
theorem dX12_must_5 : decode cX12_must 5 = .ok (.iconst 1, 1) := by decide +kernel
theorem dX12_must_6 : decode cX12_must 6 = .ok (.invokevirtual 128, 3) := by decide +kernel
theorem dX12_must_9 : decode cX12_must 9 = .ok (.aload_n 0, 1) := by decide +kernel
theorem dX12_must_10 : decode cX12_must 10 = .ok (.getfield 122, 3) := by decide +kernel
theorem dX12_must_13 : decode cX12_must 13 = .ok (.ifCond .ne 7, 3) := by decide +kernel
theorem dX12_must_16 : decode cX12_must 16 = .ok (.aload_n 0, 1) := by decide +kernel
theorem dX12_must_17 : decode cX12_must 17 = .ok (.invokevirtual 132, 3) := by decide +kernel
theorem dX12_must_20 : decode cX12_must 20 = .ok (.return_, 1) := by decide +kernel
theorem dX12_word_0 : decode cX12_word 0 = .ok (.lconst 0, 1) := by decide +kernel
theorem dX12_word_1 : decode cX12_word 1 = .ok (.lstore_n 1, 1) := by decide +kernel
theorem dX12_word_2 : decode cX12_word 2 = .ok (.aload_n 0, 1) := by decide +kernel
theorem dX12_word_3 : decode cX12_word 3 = .ok (.getfield 107, 3) := by decide +kernel
theorem dX12_word_6 : decode cX12_word 6 = .ok (.istore_n 3, 1) := by decide +kernel
theorem dX12_word_7 : decode cX12_word 7 = .ok (.iload_n 3, 1) := by decide +kernel
theorem dX12_word_8 : decode cX12_word 8 = .ok (.aload_n 0, 1) := by decide +kernel
theorem dX12_word_9 : decode cX12_word 9 = .ok (.getfield 119, 3) := by decide +kernel
theorem dX12_word_12 : decode cX12_word 12 = .ok (.if_icmp .ge 44, 3) := by decide +kernel
theorem dX12_word_15 : decode cX12_word 15 = .ok (.aload_n 0, 1) := by decide +kernel
theorem dX12_word_16 : decode cX12_word 16 = .ok (.getfield 110, 3) := by decide +kernel
theorem dX12_word_19 : decode cX12_word 19 = .ok (.iconst 2, 1) := by decide +kernel
theorem dX12_word_20 : decode cX12_word 20 = .ok (.if_icmp .ne 36, 3) := by decide +kernel
theorem dX12_word_23 : decode cX12_word 23 = .ok (.aload_n 0, 1) := by decide +kernel
theorem dX12_word_24 : decode cX12_word 24 = .ok (.getfield 119, 3) := by decide +kernel
theorem dX12_word_27 : decode cX12_word 27 = .ok (.aload_n 0, 1) := by decide +kernel
theorem dX12_word_28 : decode cX12_word 28 = .ok (.getfield 107, 3) := by decide +kernel
theorem dX12_word_31 : decode cX12_word 31 = .ok (.isub, 1) := by decide +kernel
theorem dX12_word_32 : decode cX12_word 32 = .ok (.bipush 9, 2) := by decide +kernel
theorem dX12_word_34 : decode cX12_word 34 = .ok (.if_icmp .ge 22, 3) := by decide +kernel
theorem dX12_word_37 : decode cX12_word 37 = .ok (.lload_n 1, 1) := by decide +kernel
theorem dX12_word_38 : decode cX12_word 38 = .ok (.bipush 8, 2) := by decide +kernel
theorem dX12_word_40 : decode cX12_word 40 = .ok (.lshl, 1) := by decide +kernel
theorem dX12_word_41 : decode cX12_word 41 = .ok (.aload_n 0, 1) := by decide +kernel
theorem dX12_word_42 : decode cX12_word 42 = .ok (.getfield 28, 3) := by decide +kernel
theorem dX12_word_45 : decode cX12_word 45 = .ok (.iload_n 3, 1) := by decide +kernel
theorem dX12_word_46 : decode cX12_word 46 = .ok (.iaload, 1) := by decide +kernel
theorem dX12_word_47 : decode cX12_word 47 = .ok (.i2l, 1) := by decide +kernel
theorem dX12_word_48 : decode cX12_word 48 = .ok (.lor, 1) := by decide +kernel
theorem dX12_word_49 : decode cX12_word 49 = .ok (.lstore_n 1, 1) := by decide +kernel
theorem dX12_word_50 : decode cX12_word 50 = .ok (.iinc 3 1, 3) := by decide +kernel
theorem dX12_word_53 : decode cX12_word 53 = .ok (.goto (-46), 3) := by decide +kernel
theorem dX12_word_56 : decode cX12_word 56 = .ok (.aload_n 0, 1) := by decide +kernel
theorem dX12_word_57 : decode cX12_word 57 = .ok (.getfield 122, 3) := by decide +kernel
theorem dX12_word_60 : decode cX12_word 60 = .ok (.ifCond .ne 7, 3) := by decide +kernel
theorem dX12_word_63 : decode cX12_word 63 = .ok (.lload_n 1, 1) := by decide +kernel
theorem dX12_word_64 : decode cX12_word 64 = .ok (.goto 4, 3) := by decide +kernel
theorem dX12_word_67 : decode cX12_word 67 = .ok (.lconst 0, 1) := by decide +kernel
theorem dX12_word_68 : decode cX12_word 68 = .ok (.lreturn, 1) := by decide +kernel
theorem dX12_number_0 : decode cX12_number 0 = .ok (.aload_n 0, 1) := by decide +kernel
theorem dX12_number_1 : decode cX12_number 1 = .ok (.getfield 122, 3) := by decide +kernel
theorem dX12_number_4 : decode cX12_number 4 = .ok (.ifCond .le 5, 3) := by decide +kernel
theorem dX12_number_7 : decode cX12_number 7 = .ok (.iconst 0, 1) := by decide +kernel
theorem dX12_number_8 : decode cX12_number 8 = .ok (.ireturn, 1) := by decide +kernel
theorem dX12_number_9 : decode cX12_number 9 = .ok (.iconst 0, 1) := by decide +kernel
theorem dX12_number_10 : decode cX12_number 10 = .ok (.istore_n 3, 1) := by decide +kernel
theorem dX12_number_11 : decode cX12_number 11 = .ok (.aload_n 0, 1) := by decide +kernel
theorem dX12_number_12 : decode cX12_number 12 = .ok (.getfield 107, 3) := by decide +kernel
theorem dX12_number_15 : decode cX12_number 15 = .ok (.istore 4, 2) := by decide +kernel
theorem dX12_number_17 : decode cX12_number 17 = .ok (.iload 4, 2) := by decide +kernel
theorem dX12_number_19 : decode cX12_number 19 = .ok (.aload_n 0, 1) := by decide +kernel
theorem dX12_number_20 : decode cX12_number 20 = .ok (.getfield 119, 3) := by decide +kernel
theorem dX12_number_23 : decode cX12_number 23 = .ok (.if_icmp .ge 33, 3) := by decide +kernel
theorem dX12_number_26 : decode cX12_number 26 = .ok (.aload_n 0, 1) := by decide +kernel
theorem dX12_number_27 : decode cX12_number 27 = .ok (.getfield 110, 3) := by decide +kernel
theorem dX12_number_30 : decode cX12_number 30 = .ok (.iconst 3, 1) := by decide +kernel
theorem dX12_number_31 : decode cX12_number 31 = .ok (.if_icmp .ne 25, 3) := by decide +kernel
theorem dX12_number_34 : decode cX12_number 34 = .ok (.bipush 10, 2) := by decide +kernel
theorem dX12_number_36 : decode cX12_number 36 = .ok (.iload_n 3, 1) := by decide +kernel
theorem dX12_number_37 : decode cX12_number 37 = .ok (.imul, 1) := by decide +kernel
theorem dX12_number_38 : decode cX12_number 38 = .ok (.aload_n 0, 1) := by decide +kernel
theorem dX12_number_39 : decode cX12_number 39 = .ok (.getfield 28, 3) := by decide +kernel
theorem dX12_number_42 : decode cX12_number 42 = .ok (.iload 4, 2) := by decide +kernel
theorem dX12_number_44 : decode cX12_number 44 = .ok (.iaload, 1) := by decide +kernel
theorem dX12_number_45 : decode cX12_number 45 = .ok (.iadd, 1) := by decide +kernel
theorem dX12_number_46 : decode cX12_number 46 = .ok (.bipush 48, 2) := by decide +kernel
theorem dX12_number_48 : decode cX12_number 48 = .ok (.isub, 1) := by decide +kernel
theorem dX12_number_49 : decode cX12_number 49 = .ok (.istore_n 3, 1) := by decide +kernel
theorem dX12_number_50 : decode cX12_number 50 = .ok (.iinc 4 1, 3) := by decide +kernel
theorem dX12_number_53 : decode cX12_number 53 = .ok (.goto (-36), 3) := by decide +kernel
theorem dX12_number_56 : decode cX12_number 56 = .ok (.aload_n 0, 1) := by decide +kernel
theorem dX12_number_57 : decode cX12_number 57 = .ok (.getfield 110, 3) := by decide +kernel
theorem dX12_number_60 : decode cX12_number 60 = .ok (.iconst 3, 1) := by decide +kernel
theorem dX12_number_61 : decode cX12_number 61 = .ok (.if_icmp .ne 20, 3) := by decide +kernel
theorem dX12_number_64 : decode cX12_number 64 = .ok (.iload_n 3, 1) := by decide +kernel
theorem dX12_number_65 : decode cX12_number 65 = .ok (.i2l, 1) := by decide +kernel
theorem dX12_number_66 : decode cX12_number 66 = .ok (.iload_n 1, 1) := by decide +kernel
theorem dX12_number_67 : decode cX12_number 67 = .ok (.i2l, 1) := by decide +kernel
theorem dX12_number_68 : decode cX12_number 68 = .ok (.iload_n 2, 1) := by decide +kernel
theorem dX12_number_69 : decode cX12_number 69 = .ok (.i2l, 1) := by decide +kernel
theorem dX12_number_70 : decode cX12_number 70 = .ok (.invokestatic 71, 3) := by decide +kernel
theorem dX12_number_73 : decode cX12_number 73 = .ok (.ifCond .ne 8, 3) := by decide +kernel
theorem dX12_number_76 : decode cX12_number 76 = .ok (.aload_n 0, 1) := by decide +kernel
theorem dX12_number_77 : decode cX12_number 77 = .ok (.iconst 2, 1) := by decide +kernel
theorem dX12_number_78 : decode cX12_number 78 = .ok (.invokevirtual 128, 3) := by decide +kernel
theorem dX12_number_81 : decode cX12_number 81 = .ok (.aload_n 0, 1) := by decide +kernel
theorem dX12_number_82 : decode cX12_number 82 = .ok (.aload_n 0, 1) := by decide +kernel
theorem dX12_number_83 : decode cX12_number 83 = .ok (.getfield 110, 3) := by decide +kernel
theorem dX12_number_86 : decode cX12_number 86 = .ok (.iconst 3, 1) := by decide +kernel
theorem dX12_number_87 : decode cX12_number 87 = .ok (.if_icmp .ne 7, 3) := by decide +kernel
theorem dX12_number_90 : decode cX12_number 90 = .ok (.iconst 1, 1) := by decide +kernel
theorem dX12_number_91 : decode cX12_number 91 = .ok (.goto 4, 3) := by decide +kernel
theorem dX12_number_94 : decode cX12_number 94 = .ok (.iconst 0, 1) := by decide +kernel
theorem dX12_number_95 : decode cX12_number 95 = .ok (.invokevirtual 135, 3) := by decide +kernel
theorem dX12_number_98 : decode cX12_number 98 = .ok (.iload_n 3, 1) := by decide +kernel
theorem dX12_number_99 : decode cX12_number 99 = .ok (.ireturn, 1) := by decide +kernel
theorem dX12_begins_0 : decode cX12_begins 0 = .ok (.aload_n 0, 1) := by decide +kernel
theorem dX12_begins_1 : decode cX12_begins 1 = .ok (.getfield 22, 3) := by decide +kernel
theorem dX12_begins_4 : decode cX12_begins 4 = .ok (.iload_n 1, 1) := by decide +kernel
theorem dX12_begins_5 : decode cX12_begins 5 = .ok (.iaload, 1) := by decide +kernel
theorem dX12_begins_6 : decode cX12_begins 6 = .ok (.iload_n 2, 1) := by decide +kernel
theorem dX12_begins_7 : decode cX12_begins 7 = .ok (.if_icmp .ne 8, 3) := by decide +kernel
theorem dX12_begins_10 : decode cX12_begins 10 = .ok (.aload_n 0, 1) := by decide +kernel
theorem dX12_begins_11 : decode cX12_begins 11 = .ok (.iconst 3, 1) := by decide +kernel
theorem dX12_begins_12 : decode cX12_begins 12 = .ok (.invokevirtual 128, 3) := by decide +kernel
theorem dX12_begins_15 : decode cX12_begins 15 = .ok (.aload_n 0, 1) := by decide +kernel
theorem dX12_begins_16 : decode cX12_begins 16 = .ok (.iconst 1, 1) := by decide +kernel
theorem dX12_begins_17 : decode cX12_begins 17 = .ok (.invokevirtual 135, 3) := by decide +kernel
theorem dX12_begins_20 : decode cX12_begins 20 = .ok (.return_, 1) := by decide +kernel
theorem dX12_ends_0 : decode cX12_ends 0 = .ok (.aload_n 0, 1) := by decide +kernel
theorem dX12_ends_1 : decode cX12_ends 1 = .ok (.getfield 122, 3) := by decide +kernel
theorem dX12_ends_4 : decode cX12_ends 4 = .ok (.ifCond .ne 20, 3) := by decide +kernel
theorem dX12_ends_7 : decode cX12_ends 7 = .ok (.aload_n 0, 1) := by decide +kernel
theorem dX12_ends_8 : decode cX12_ends 8 = .ok (.aload_n 0, 1) := by decide +kernel
theorem dX12_ends_9 : decode cX12_ends 9 = .ok (.getfield 110, 3) := by decide +kernel
theorem dX12_ends_12 : decode cX12_ends 12 = .ok (.iconst 4, 1) := by decide +kernel
theorem dX12_ends_13 : decode cX12_ends 13 = .ok (.if_icmp .ne 7, 3) := by decide +kernel
theorem dX12_ends_16 : decode cX12_ends 16 = .ok (.iconst 1, 1) := by decide +kernel
theorem dX12_ends_17 : decode cX12_ends 17 = .ok (.goto 4, 3) := by decide +kernel
theorem dX12_ends_20 : decode cX12_ends 20 = .ok (.iconst 0, 1) := by decide +kernel
theorem dX12_ends_21 : decode cX12_ends 21 = .ok (.invokevirtual 135, 3) := by decide +kernel
theorem dX12_ends_24 : decode cX12_ends 24 = .ok (.aload_n 0, 1) := by decide +kernel
theorem dX12_ends_25 : decode cX12_ends 25 = .ok (.getfield 22, 3) := by decide +kernel
theorem dX12_ends_28 : decode cX12_ends 28 = .ok (.iload_n 1, 1) := by decide +kernel
theorem dX12_ends_29 : decode cX12_ends 29 = .ok (.dup2, 1) := by decide +kernel
theorem dX12_ends_30 : decode cX12_ends 30 = .ok (.iaload, 1) := by decide +kernel
theorem dX12_ends_31 : decode cX12_ends 31 = .ok (.aload_n 0, 1) := by decide +kernel
theorem dX12_ends_32 : decode cX12_ends 32 = .ok (.getfield 122, 3) := by decide +kernel
theorem dX12_ends_35 : decode cX12_ends 35 = .ok (.ifCond .ne 7, 3) := by decide +kernel
theorem dX12_ends_38 : decode cX12_ends 38 = .ok (.iconst 1, 1) := by decide +kernel
theorem dX12_ends_39 : decode cX12_ends 39 = .ok (.goto 4, 3) := by decide +kernel
theorem dX12_ends_42 : decode cX12_ends 42 = .ok (.iconst 0, 1) := by decide +kernel
theorem dX12_ends_43 : decode cX12_ends 43 = .ok (.iadd, 1) := by decide +kernel
theorem dX12_ends_44 : decode cX12_ends 44 = .ok (.iastore, 1) := by decide +kernel
theorem dX12_ends_45 : decode cX12_ends 45 = .ok (.aload_n 0, 1) := by decide +kernel
theorem dX12_ends_46 : decode cX12_ends 46 = .ok (.getfield 122, 3) := by decide +kernel
theorem dX12_ends_49 : decode cX12_ends 49 = .ok (.ifCond .ne 7, 3) := by decide +kernel
theorem dX12_ends_52 : decode cX12_ends 52 = .ok (.iconst 1, 1) := by decide +kernel
theorem dX12_ends_53 : decode cX12_ends 53 = .ok (.goto 4, 3) := by decide +kernel
theorem dX12_ends_56 : decode cX12_ends 56 = .ok (.iconst 0, 1) := by decide +kernel
theorem dX12_ends_57 : decode cX12_ends 57 = .ok (.ireturn, 1) := by decide +kernel
theorem dX12_wayOf_0 : decode cX12_wayOf 0 = .ok (.lload_n 0, 1) := by decide +kernel
theorem dX12_wayOf_1 : decode cX12_wayOf 1 = .ok (.ldc2_w 139, 3) := by decide +kernel
theorem dX12_wayOf_4 : decode cX12_wayOf 4 = .ok (.lcmp, 1) := by decide +kernel
theorem dX12_wayOf_5 : decode cX12_wayOf 5 = .ok (.ifCond .ne 7, 3) := by decide +kernel
theorem dX12_wayOf_8 : decode cX12_wayOf 8 = .ok (.iconst 0, 1) := by decide +kernel
theorem dX12_wayOf_9 : decode cX12_wayOf 9 = .ok (.goto 91, 3) := by decide +kernel
theorem dX12_wayOf_12 : decode cX12_wayOf 12 = .ok (.lload_n 0, 1) := by decide +kernel
theorem dX12_wayOf_13 : decode cX12_wayOf 13 = .ok (.ldc2_w 141, 3) := by decide +kernel
theorem dX12_wayOf_16 : decode cX12_wayOf 16 = .ok (.lcmp, 1) := by decide +kernel
theorem dX12_wayOf_17 : decode cX12_wayOf 17 = .ok (.ifCond .ne 7, 3) := by decide +kernel
theorem dX12_wayOf_20 : decode cX12_wayOf 20 = .ok (.iconst 1, 1) := by decide +kernel
theorem dX12_wayOf_21 : decode cX12_wayOf 21 = .ok (.goto 79, 3) := by decide +kernel
theorem dX12_wayOf_24 : decode cX12_wayOf 24 = .ok (.lload_n 0, 1) := by decide +kernel
theorem dX12_wayOf_25 : decode cX12_wayOf 25 = .ok (.ldc2_w 143, 3) := by decide +kernel
theorem dX12_wayOf_28 : decode cX12_wayOf 28 = .ok (.lcmp, 1) := by decide +kernel
theorem dX12_wayOf_29 : decode cX12_wayOf 29 = .ok (.ifCond .ne 7, 3) := by decide +kernel
theorem dX12_wayOf_32 : decode cX12_wayOf 32 = .ok (.iconst 2, 1) := by decide +kernel
theorem dX12_wayOf_33 : decode cX12_wayOf 33 = .ok (.goto 67, 3) := by decide +kernel
theorem dX12_wayOf_36 : decode cX12_wayOf 36 = .ok (.lload_n 0, 1) := by decide +kernel
theorem dX12_wayOf_37 : decode cX12_wayOf 37 = .ok (.ldc2_w 145, 3) := by decide +kernel
theorem dX12_wayOf_40 : decode cX12_wayOf 40 = .ok (.lcmp, 1) := by decide +kernel
theorem dX12_wayOf_41 : decode cX12_wayOf 41 = .ok (.ifCond .ne 7, 3) := by decide +kernel
theorem dX12_wayOf_44 : decode cX12_wayOf 44 = .ok (.iconst 3, 1) := by decide +kernel
theorem dX12_wayOf_45 : decode cX12_wayOf 45 = .ok (.goto 55, 3) := by decide +kernel
theorem dX12_wayOf_48 : decode cX12_wayOf 48 = .ok (.lload_n 0, 1) := by decide +kernel
theorem dX12_wayOf_49 : decode cX12_wayOf 49 = .ok (.ldc2_w 147, 3) := by decide +kernel
theorem dX12_wayOf_52 : decode cX12_wayOf 52 = .ok (.lcmp, 1) := by decide +kernel
theorem dX12_wayOf_53 : decode cX12_wayOf 53 = .ok (.ifCond .ne 7, 3) := by decide +kernel
theorem dX12_wayOf_56 : decode cX12_wayOf 56 = .ok (.iconst 4, 1) := by decide +kernel
theorem dX12_wayOf_57 : decode cX12_wayOf 57 = .ok (.goto 43, 3) := by decide +kernel
theorem dX12_wayOf_60 : decode cX12_wayOf 60 = .ok (.lload_n 0, 1) := by decide +kernel
theorem dX12_wayOf_61 : decode cX12_wayOf 61 = .ok (.ldc2_w 149, 3) := by decide +kernel
theorem dX12_wayOf_64 : decode cX12_wayOf 64 = .ok (.lcmp, 1) := by decide +kernel
theorem dX12_wayOf_65 : decode cX12_wayOf 65 = .ok (.ifCond .ne 7, 3) := by decide +kernel
theorem dX12_wayOf_68 : decode cX12_wayOf 68 = .ok (.iconst 5, 1) := by decide +kernel
theorem dX12_wayOf_69 : decode cX12_wayOf 69 = .ok (.goto 31, 3) := by decide +kernel
theorem dX12_wayOf_72 : decode cX12_wayOf 72 = .ok (.lload_n 0, 1) := by decide +kernel
theorem dX12_wayOf_73 : decode cX12_wayOf 73 = .ok (.ldc2_w 151, 3) := by decide +kernel
theorem dX12_wayOf_76 : decode cX12_wayOf 76 = .ok (.lcmp, 1) := by decide +kernel
theorem dX12_wayOf_77 : decode cX12_wayOf 77 = .ok (.ifCond .ne 8, 3) := by decide +kernel
theorem dX12_wayOf_80 : decode cX12_wayOf 80 = .ok (.bipush 6, 2) := by decide +kernel
theorem dX12_wayOf_82 : decode cX12_wayOf 82 = .ok (.goto 18, 3) := by decide +kernel
theorem dX12_wayOf_85 : decode cX12_wayOf 85 = .ok (.lload_n 0, 1) := by decide +kernel
theorem dX12_wayOf_86 : decode cX12_wayOf 86 = .ok (.ldc2_w 153, 3) := by decide +kernel
theorem dX12_wayOf_89 : decode cX12_wayOf 89 = .ok (.lcmp, 1) := by decide +kernel
theorem dX12_wayOf_90 : decode cX12_wayOf 90 = .ok (.ifCond .ne 8, 3) := by decide +kernel
theorem dX12_wayOf_93 : decode cX12_wayOf 93 = .ok (.bipush 7, 2) := by decide +kernel
theorem dX12_wayOf_95 : decode cX12_wayOf 95 = .ok (.goto 5, 3) := by decide +kernel
theorem dX12_wayOf_98 : decode cX12_wayOf 98 = .ok (.ldc 99, 2) := by decide +kernel
theorem dX12_wayOf_100 : decode cX12_wayOf 100 = .ok (.ireturn, 1) := by decide +kernel
theorem dX12_whatOf_0 : decode cX12_whatOf 0 = .ok (.lload_n 0, 1) := by decide +kernel
theorem dX12_whatOf_1 : decode cX12_whatOf 1 = .ok (.ldc2_w 155, 3) := by decide +kernel
theorem dX12_whatOf_4 : decode cX12_whatOf 4 = .ok (.lcmp, 1) := by decide +kernel
theorem dX12_whatOf_5 : decode cX12_whatOf 5 = .ok (.ifCond .ne 7, 3) := by decide +kernel
theorem dX12_whatOf_8 : decode cX12_whatOf 8 = .ok (.iconst 1, 1) := by decide +kernel
theorem dX12_whatOf_9 : decode cX12_whatOf 9 = .ok (.goto 79, 3) := by decide +kernel
theorem dX12_whatOf_12 : decode cX12_whatOf 12 = .ok (.lload_n 0, 1) := by decide +kernel
theorem dX12_whatOf_13 : decode cX12_whatOf 13 = .ok (.ldc2_w 157, 3) := by decide +kernel
theorem dX12_whatOf_16 : decode cX12_whatOf 16 = .ok (.lcmp, 1) := by decide +kernel
theorem dX12_whatOf_17 : decode cX12_whatOf 17 = .ok (.ifCond .ne 7, 3) := by decide +kernel
theorem dX12_whatOf_20 : decode cX12_whatOf 20 = .ok (.iconst 2, 1) := by decide +kernel
theorem dX12_whatOf_21 : decode cX12_whatOf 21 = .ok (.goto 67, 3) := by decide +kernel
theorem dX12_whatOf_24 : decode cX12_whatOf 24 = .ok (.lload_n 0, 1) := by decide +kernel
theorem dX12_whatOf_25 : decode cX12_whatOf 25 = .ok (.ldc2_w 159, 3) := by decide +kernel
theorem dX12_whatOf_28 : decode cX12_whatOf 28 = .ok (.lcmp, 1) := by decide +kernel
theorem dX12_whatOf_29 : decode cX12_whatOf 29 = .ok (.ifCond .ne 7, 3) := by decide +kernel
theorem dX12_whatOf_32 : decode cX12_whatOf 32 = .ok (.iconst 3, 1) := by decide +kernel
theorem dX12_whatOf_33 : decode cX12_whatOf 33 = .ok (.goto 55, 3) := by decide +kernel
theorem dX12_whatOf_36 : decode cX12_whatOf 36 = .ok (.lload_n 0, 1) := by decide +kernel
theorem dX12_whatOf_37 : decode cX12_whatOf 37 = .ok (.ldc2_w 161, 3) := by decide +kernel
theorem dX12_whatOf_40 : decode cX12_whatOf 40 = .ok (.lcmp, 1) := by decide +kernel
theorem dX12_whatOf_41 : decode cX12_whatOf 41 = .ok (.ifCond .ne 7, 3) := by decide +kernel
theorem dX12_whatOf_44 : decode cX12_whatOf 44 = .ok (.iconst 4, 1) := by decide +kernel
theorem dX12_whatOf_45 : decode cX12_whatOf 45 = .ok (.goto 43, 3) := by decide +kernel
theorem dX12_whatOf_48 : decode cX12_whatOf 48 = .ok (.lload_n 0, 1) := by decide +kernel
theorem dX12_whatOf_49 : decode cX12_whatOf 49 = .ok (.ldc2_w 163, 3) := by decide +kernel
theorem dX12_whatOf_52 : decode cX12_whatOf 52 = .ok (.lcmp, 1) := by decide +kernel
theorem dX12_whatOf_53 : decode cX12_whatOf 53 = .ok (.ifCond .ne 7, 3) := by decide +kernel
theorem dX12_whatOf_56 : decode cX12_whatOf 56 = .ok (.iconst 5, 1) := by decide +kernel
theorem dX12_whatOf_57 : decode cX12_whatOf 57 = .ok (.goto 31, 3) := by decide +kernel
theorem dX12_whatOf_60 : decode cX12_whatOf 60 = .ok (.lload_n 0, 1) := by decide +kernel
theorem dX12_whatOf_61 : decode cX12_whatOf 61 = .ok (.ldc2_w 165, 3) := by decide +kernel
theorem dX12_whatOf_64 : decode cX12_whatOf 64 = .ok (.lcmp, 1) := by decide +kernel
theorem dX12_whatOf_65 : decode cX12_whatOf 65 = .ok (.ifCond .ne 8, 3) := by decide +kernel
theorem dX12_whatOf_68 : decode cX12_whatOf 68 = .ok (.bipush 6, 2) := by decide +kernel
theorem dX12_whatOf_70 : decode cX12_whatOf 70 = .ok (.goto 18, 3) := by decide +kernel
