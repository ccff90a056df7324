theorem dX12_whatOf_73 : decode cX12_whatOf 73 = .ok (.lload_n 0, 1) := by decide +kernel
theorem dX12_whatOf_74 : decode cX12_whatOf 74 = .ok (.ldc2_w 167, 3) := by decide +kernel
theorem dX12_whatOf_77 : decode cX12_whatOf 77 = .ok (.lcmp, 1) := by decide +kernel
theorem dX12_whatOf_78 : decode cX12_whatOf 78 = .ok (.ifCond .ne 8, 3) := by decide +kernel
theorem dX12_whatOf_81 : decode cX12_whatOf 81 = .ok (.bipush 7, 2) := by decide +kernel
theorem dX12_whatOf_83 : decode cX12_whatOf 83 = .ok (.goto 5, 3) := by decide +kernel
theorem dX12_whatOf_86 : decode cX12_whatOf 86 = .ok (.ldc 99, 2) := by decide +kernel
theorem dX12_whatOf_88 : decode cX12_whatOf 88 = .ok (.ireturn, 1) := by decide +kernel
theorem dX12_named_0 : decode cX12_named 0 = .ok (.aload_n 0, 1) := by decide +kernel
theorem dX12_named_1 : decode cX12_named 1 = .ok (.getfield 122, 3) := by decide +kernel
theorem dX12_named_4 : decode cX12_named 4 = .ok (.ifCond .ne 18, 3) := by decide +kernel
theorem dX12_named_7 : decode cX12_named 7 = .ok (.aload_n 0, 1) := by decide +kernel
theorem dX12_named_8 : decode cX12_named 8 = .ok (.iload_n 1, 1) := by decide +kernel
theorem dX12_named_9 : decode cX12_named 9 = .ok (.ldc 99, 2) := by decide +kernel
theorem dX12_named_11 : decode cX12_named 11 = .ok (.if_icmp .eq 7, 3) := by decide +kernel
theorem dX12_named_14 : decode cX12_named 14 = .ok (.iconst 1, 1) := by decide +kernel
theorem dX12_named_15 : decode cX12_named 15 = .ok (.goto 4, 3) := by decide +kernel
theorem dX12_named_18 : decode cX12_named 18 = .ok (.iconst 0, 1) := by decide +kernel
theorem dX12_named_19 : decode cX12_named 19 = .ok (.invokevirtual 135, 3) := by decide +kernel
theorem dX12_named_22 : decode cX12_named 22 = .ok (.iload_n 1, 1) := by decide +kernel
theorem dX12_named_23 : decode cX12_named 23 = .ok (.ireturn, 1) := by decide +kernel
theorem dX12_readWind_0 : decode cX12_readWind 0 = .ok (.aload_n 0, 1) := by decide +kernel
theorem dX12_readWind_1 : decode cX12_readWind 1 = .ok (.iconst 0, 1) := by decide +kernel
theorem dX12_readWind_2 : decode cX12_readWind 2 = .ok (.iconst 4, 1) := by decide +kernel
theorem dX12_readWind_3 : decode cX12_readWind 3 = .ok (.invokevirtual 169, 3) := by decide +kernel
theorem dX12_readWind_6 : decode cX12_readWind 6 = .ok (.bipush 12, 2) := by decide +kernel
theorem dX12_readWind_8 : decode cX12_readWind 8 = .ok (.iconst 2, 1) := by decide +kernel
theorem dX12_readWind_9 : decode cX12_readWind 9 = .ok (.aload_n 0, 1) := by decide +kernel
theorem dX12_readWind_10 : decode cX12_readWind 10 = .ok (.getfield 22, 3) := by decide +kernel
theorem dX12_readWind_13 : decode cX12_readWind 13 = .ok (.iconst 0, 1) := by decide +kernel
theorem dX12_readWind_14 : decode cX12_readWind 14 = .ok (.iaload, 1) := by decide +kernel
theorem dX12_readWind_15 : decode cX12_readWind 15 = .ok (.imul, 1) := by decide +kernel
theorem dX12_readWind_16 : decode cX12_readWind 16 = .ok (.iadd, 1) := by decide +kernel
theorem dX12_readWind_17 : decode cX12_readWind 17 = .ok (.istore_n 1, 1) := by decide +kernel
theorem dX12_readWind_18 : decode cX12_readWind 18 = .ok (.aload_n 0, 1) := by decide +kernel
theorem dX12_readWind_19 : decode cX12_readWind 19 = .ok (.aload_n 0, 1) := by decide +kernel
theorem dX12_readWind_20 : decode cX12_readWind 20 = .ok (.invokevirtual 173, 3) := by decide +kernel
theorem dX12_readWind_23 : decode cX12_readWind 23 = .ok (.invokestatic 177, 3) := by decide +kernel
theorem dX12_readWind_26 : decode cX12_readWind 26 = .ok (.invokevirtual 181, 3) := by decide +kernel
theorem dX12_readWind_29 : decode cX12_readWind 29 = .ok (.istore_n 2, 1) := by decide +kernel
theorem dX12_readWind_30 : decode cX12_readWind 30 = .ok (.aload_n 0, 1) := by decide +kernel
theorem dX12_readWind_31 : decode cX12_readWind 31 = .ok (.iconst 1, 1) := by decide +kernel
theorem dX12_readWind_32 : decode cX12_readWind 32 = .ok (.bipush 9, 2) := by decide +kernel
theorem dX12_readWind_34 : decode cX12_readWind 34 = .ok (.invokevirtual 184, 3) := by decide +kernel
theorem dX12_readWind_37 : decode cX12_readWind 37 = .ok (.istore_n 3, 1) := by decide +kernel
theorem dX12_readWind_38 : decode cX12_readWind 38 = .ok (.aload_n 0, 1) := by decide +kernel
theorem dX12_readWind_39 : decode cX12_readWind 39 = .ok (.iconst 0, 1) := by decide +kernel
theorem dX12_readWind_40 : decode cX12_readWind 40 = .ok (.invokevirtual 188, 3) := by decide +kernel
theorem dX12_readWind_43 : decode cX12_readWind 43 = .ok (.ifCond .eq 19, 3) := by decide +kernel
theorem dX12_readWind_46 : decode cX12_readWind 46 = .ok (.aload_n 0, 1) := by decide +kernel
theorem dX12_readWind_47 : decode cX12_readWind 47 = .ok (.getfield 22, 3) := by decide +kernel
theorem dX12_readWind_50 : decode cX12_readWind 50 = .ok (.iload_n 1, 1) := by decide +kernel
theorem dX12_readWind_51 : decode cX12_readWind 51 = .ok (.iload_n 2, 1) := by decide +kernel
theorem dX12_readWind_52 : decode cX12_readWind 52 = .ok (.iastore, 1) := by decide +kernel
theorem dX12_readWind_53 : decode cX12_readWind 53 = .ok (.aload_n 0, 1) := by decide +kernel
theorem dX12_readWind_54 : decode cX12_readWind 54 = .ok (.getfield 22, 3) := by decide +kernel
theorem dX12_readWind_57 : decode cX12_readWind 57 = .ok (.iload_n 1, 1) := by decide +kernel
theorem dX12_readWind_58 : decode cX12_readWind 58 = .ok (.iconst 1, 1) := by decide +kernel
theorem dX12_readWind_59 : decode cX12_readWind 59 = .ok (.iadd, 1) := by decide +kernel
theorem dX12_readWind_60 : decode cX12_readWind 60 = .ok (.iload_n 3, 1) := by decide +kernel
theorem dX12_readWind_61 : decode cX12_readWind 61 = .ok (.iastore, 1) := by decide +kernel
theorem dX12_readWind_62 : decode cX12_readWind 62 = .ok (.return_, 1) := by decide +kernel
theorem dX12_readLand_0 : decode cX12_readLand 0 = .ok (.aload_n 0, 1) := by decide +kernel
theorem dX12_readLand_1 : decode cX12_readLand 1 = .ok (.iconst 1, 1) := by decide +kernel
theorem dX12_readLand_2 : decode cX12_readLand 2 = .ok (.bipush 12, 2) := by decide +kernel
theorem dX12_readLand_4 : decode cX12_readLand 4 = .ok (.invokevirtual 169, 3) := by decide +kernel
theorem dX12_readLand_7 : decode cX12_readLand 7 = .ok (.aload_n 0, 1) := by decide +kernel
theorem dX12_readLand_8 : decode cX12_readLand 8 = .ok (.iconst 0, 1) := by decide +kernel
theorem dX12_readLand_9 : decode cX12_readLand 9 = .ok (.aload_n 0, 1) := by decide +kernel
theorem dX12_readLand_10 : decode cX12_readLand 10 = .ok (.getfield 22, 3) := by decide +kernel
theorem dX12_readLand_13 : decode cX12_readLand 13 = .ok (.bipush 6, 2) := by decide +kernel
theorem dX12_readLand_15 : decode cX12_readLand 15 = .ok (.iaload, 1) := by decide +kernel
theorem dX12_readLand_16 : decode cX12_readLand 16 = .ok (.iconst 1, 1) := by decide +kernel
theorem dX12_readLand_17 : decode cX12_readLand 17 = .ok (.isub, 1) := by decide +kernel
theorem dX12_readLand_18 : decode cX12_readLand 18 = .ok (.invokevirtual 184, 3) := by decide +kernel
theorem dX12_readLand_21 : decode cX12_readLand 21 = .ok (.istore_n 1, 1) := by decide +kernel
theorem dX12_readLand_22 : decode cX12_readLand 22 = .ok (.aload_n 0, 1) := by decide +kernel
theorem dX12_readLand_23 : decode cX12_readLand 23 = .ok (.iconst 0, 1) := by decide +kernel
theorem dX12_readLand_24 : decode cX12_readLand 24 = .ok (.aload_n 0, 1) := by decide +kernel
theorem dX12_readLand_25 : decode cX12_readLand 25 = .ok (.getfield 22, 3) := by decide +kernel
theorem dX12_readLand_28 : decode cX12_readLand 28 = .ok (.bipush 7, 2) := by decide +kernel
theorem dX12_readLand_30 : decode cX12_readLand 30 = .ok (.iaload, 1) := by decide +kernel
theorem dX12_readLand_31 : decode cX12_readLand 31 = .ok (.iconst 1, 1) := by decide +kernel
theorem dX12_readLand_32 : decode cX12_readLand 32 = .ok (.isub, 1) := by decide +kernel
theorem dX12_readLand_33 : decode cX12_readLand 33 = .ok (.invokevirtual 184, 3) := by decide +kernel
theorem dX12_readLand_36 : decode cX12_readLand 36 = .ok (.istore_n 2, 1) := by decide +kernel
theorem dX12_readLand_37 : decode cX12_readLand 37 = .ok (.aload_n 0, 1) := by decide +kernel
theorem dX12_readLand_38 : decode cX12_readLand 38 = .ok (.iconst 1, 1) := by decide +kernel
theorem dX12_readLand_39 : decode cX12_readLand 39 = .ok (.invokevirtual 188, 3) := by decide +kernel
theorem dX12_readLand_42 : decode cX12_readLand 42 = .ok (.ifCond .eq 18, 3) := by decide +kernel
theorem dX12_readLand_45 : decode cX12_readLand 45 = .ok (.aload_n 0, 1) := by decide +kernel
theorem dX12_readLand_46 : decode cX12_readLand 46 = .ok (.getfield 22, 3) := by decide +kernel
theorem dX12_readLand_49 : decode cX12_readLand 49 = .ok (.bipush 78, 2) := by decide +kernel
theorem dX12_readLand_51 : decode cX12_readLand 51 = .ok (.bipush 16, 2) := by decide +kernel
theorem dX12_readLand_53 : decode cX12_readLand 53 = .ok (.iload_n 2, 1) := by decide +kernel
theorem dX12_readLand_54 : decode cX12_readLand 54 = .ok (.imul, 1) := by decide +kernel
theorem dX12_readLand_55 : decode cX12_readLand 55 = .ok (.iadd, 1) := by decide +kernel
theorem dX12_readLand_56 : decode cX12_readLand 56 = .ok (.iload_n 1, 1) := by decide +kernel
theorem dX12_readLand_57 : decode cX12_readLand 57 = .ok (.iadd, 1) := by decide +kernel
theorem dX12_readLand_58 : decode cX12_readLand 58 = .ok (.iconst 1, 1) := by decide +kernel
theorem dX12_readLand_59 : decode cX12_readLand 59 = .ok (.iastore, 1) := by decide +kernel
theorem dX12_readLand_60 : decode cX12_readLand 60 = .ok (.return_, 1) := by decide +kernel
theorem dX12_readShip_0 : decode cX12_readShip 0 = .ok (.aload_n 0, 1) := by decide +kernel
theorem dX12_readShip_1 : decode cX12_readShip 1 = .ok (.iconst 1, 1) := by decide +kernel
theorem dX12_readShip_2 : decode cX12_readShip 2 = .ok (.invokevirtual 135, 3) := by decide +kernel
theorem dX12_readShip_5 : decode cX12_readShip 5 = .ok (.aload_n 0, 1) := by decide +kernel
theorem dX12_readShip_6 : decode cX12_readShip 6 = .ok (.iconst 0, 1) := by decide +kernel
theorem dX12_readShip_7 : decode cX12_readShip 7 = .ok (.bipush 7, 2) := by decide +kernel
theorem dX12_readShip_9 : decode cX12_readShip 9 = .ok (.invokevirtual 184, 3) := by decide +kernel
theorem dX12_readShip_12 : decode cX12_readShip 12 = .ok (.istore_n 1, 1) := by decide +kernel
theorem dX12_readShip_13 : decode cX12_readShip 13 = .ok (.aload_n 0, 1) := by decide +kernel
theorem dX12_readShip_14 : decode cX12_readShip 14 = .ok (.iconst 0, 1) := by decide +kernel
theorem dX12_readShip_15 : decode cX12_readShip 15 = .ok (.bipush 20, 2) := by decide +kernel
theorem dX12_readShip_17 : decode cX12_readShip 17 = .ok (.invokevirtual 184, 3) := by decide +kernel
theorem dX12_readShip_20 : decode cX12_readShip 20 = .ok (.istore_n 2, 1) := by decide +kernel
theorem dX12_readShip_21 : decode cX12_readShip 21 = .ok (.aload_n 0, 1) := by decide +kernel
theorem dX12_readShip_22 : decode cX12_readShip 22 = .ok (.iconst 0, 1) := by decide +kernel
theorem dX12_readShip_23 : decode cX12_readShip 23 = .ok (.bipush 40, 2) := by decide +kernel
theorem dX12_readShip_25 : decode cX12_readShip 25 = .ok (.invokevirtual 184, 3) := by decide +kernel
theorem dX12_readShip_28 : decode cX12_readShip 28 = .ok (.istore_n 3, 1) := by decide +kernel
theorem dX12_readShip_29 : decode cX12_readShip 29 = .ok (.aload_n 0, 1) := by decide +kernel
theorem dX12_readShip_30 : decode cX12_readShip 30 = .ok (.iconst 1, 1) := by decide +kernel
theorem dX12_readShip_31 : decode cX12_readShip 31 = .ok (.sipush 200, 3) := by decide +kernel
theorem dX12_readShip_34 : decode cX12_readShip 34 = .ok (.invokevirtual 184, 3) := by decide +kernel
theorem dX12_readShip_37 : decode cX12_readShip 37 = .ok (.istore 4, 2) := by decide +kernel
theorem dX12_readShip_39 : decode cX12_readShip 39 = .ok (.aload_n 0, 1) := by decide +kernel
theorem dX12_readShip_40 : decode cX12_readShip 40 = .ok (.iconst 2, 1) := by decide +kernel
theorem dX12_readShip_41 : decode cX12_readShip 41 = .ok (.invokevirtual 188, 3) := by decide +kernel
theorem dX12_readShip_44 : decode cX12_readShip 44 = .ok (.ifCond .eq 36, 3) := by decide +kernel
theorem dX12_readShip_47 : decode cX12_readShip 47 = .ok (.aload_n 0, 1) := by decide +kernel
theorem dX12_readShip_48 : decode cX12_readShip 48 = .ok (.getfield 22, 3) := by decide +kernel
theorem dX12_readShip_51 : decode cX12_readShip 51 = .ok (.bipush 8, 2) := by decide +kernel
theorem dX12_readShip_53 : decode cX12_readShip 53 = .ok (.iload_n 1, 1) := by decide +kernel
theorem dX12_readShip_54 : decode cX12_readShip 54 = .ok (.iastore, 1) := by decide +kernel
theorem dX12_readShip_55 : decode cX12_readShip 55 = .ok (.aload_n 0, 1) := by decide +kernel
theorem dX12_readShip_56 : decode cX12_readShip 56 = .ok (.getfield 22, 3) := by decide +kernel
theorem dX12_readShip_59 : decode cX12_readShip 59 = .ok (.bipush 9, 2) := by decide +kernel
theorem dX12_readShip_61 : decode cX12_readShip 61 = .ok (.iload_n 2, 1) := by decide +kernel
theorem dX12_readShip_62 : decode cX12_readShip 62 = .ok (.iastore, 1) := by decide +kernel
theorem dX12_readShip_63 : decode cX12_readShip 63 = .ok (.aload_n 0, 1) := by decide +kernel
theorem dX12_readShip_64 : decode cX12_readShip 64 = .ok (.getfield 22, 3) := by decide +kernel
theorem dX12_readShip_67 : decode cX12_readShip 67 = .ok (.bipush 10, 2) := by decide +kernel
theorem dX12_readShip_69 : decode cX12_readShip 69 = .ok (.iload_n 3, 1) := by decide +kernel
theorem dX12_readShip_70 : decode cX12_readShip 70 = .ok (.iastore, 1) := by decide +kernel
theorem dX12_readShip_71 : decode cX12_readShip 71 = .ok (.aload_n 0, 1) := by decide +kernel
theorem dX12_readShip_72 : decode cX12_readShip 72 = .ok (.getfield 22, 3) := by decide +kernel
theorem dX12_readShip_75 : decode cX12_readShip 75 = .ok (.bipush 11, 2) := by decide +kernel
theorem dX12_readShip_77 : decode cX12_readShip 77 = .ok (.iload 4, 2) := by decide +kernel
theorem dX12_readShip_79 : decode cX12_readShip 79 = .ok (.iastore, 1) := by decide +kernel
theorem dX12_readShip_80 : decode cX12_readShip 80 = .ok (.return_, 1) := by decide +kernel
theorem dX12_readMan_0 : decode cX12_readMan 0 = .ok (.aload_n 0, 1) := by decide +kernel
theorem dX12_readMan_1 : decode cX12_readMan 1 = .ok (.iconst 3, 1) := by decide +kernel
theorem dX12_readMan_2 : decode cX12_readMan 2 = .ok (.bipush 10, 2) := by decide +kernel
theorem dX12_readMan_4 : decode cX12_readMan 4 = .ok (.invokevirtual 169, 3) := by decide +kernel
theorem dX12_readMan_7 : decode cX12_readMan 7 = .ok (.bipush 20, 2) := by decide +kernel
theorem dX12_readMan_9 : decode cX12_readMan 9 = .ok (.iconst 2, 1) := by decide +kernel
theorem dX12_readMan_10 : decode cX12_readMan 10 = .ok (.aload_n 0, 1) := by decide +kernel
theorem dX12_readMan_11 : decode cX12_readMan 11 = .ok (.getfield 22, 3) := by decide +kernel
theorem dX12_readMan_14 : decode cX12_readMan 14 = .ok (.iconst 3, 1) := by decide +kernel
theorem dX12_readMan_15 : decode cX12_readMan 15 = .ok (.iaload, 1) := by decide +kernel
theorem dX12_readMan_16 : decode cX12_readMan 16 = .ok (.imul, 1) := by decide +kernel
theorem dX12_readMan_17 : decode cX12_readMan 17 = .ok (.iadd, 1) := by decide +kernel
theorem dX12_readMan_18 : decode cX12_readMan 18 = .ok (.istore_n 1, 1) := by decide +kernel
theorem dX12_readMan_19 : decode cX12_readMan 19 = .ok (.aload_n 0, 1) := by decide +kernel
theorem dX12_readMan_20 : decode cX12_readMan 20 = .ok (.iconst 1, 1) := by decide +kernel
theorem dX12_readMan_21 : decode cX12_readMan 21 = .ok (.sipush 200, 3) := by decide +kernel
theorem dX12_readMan_24 : decode cX12_readMan 24 = .ok (.invokevirtual 184, 3) := by decide +kernel
theorem dX12_readMan_27 : decode cX12_readMan 27 = .ok (.istore_n 2, 1) := by decide +kernel
theorem dX12_readMan_28 : decode cX12_readMan 28 = .ok (.aload_n 0, 1) := by decide +kernel
theorem dX12_readMan_29 : decode cX12_readMan 29 = .ok (.iconst 1, 1) := by decide +kernel
theorem dX12_readMan_30 : decode cX12_readMan 30 = .ok (.bipush 50, 2) := by decide +kernel
theorem dX12_readMan_32 : decode cX12_readMan 32 = .ok (.invokevirtual 184, 3) := by decide +kernel
theorem dX12_readMan_35 : decode cX12_readMan 35 = .ok (.istore_n 3, 1) := by decide +kernel
theorem dX12_readMan_36 : decode cX12_readMan 36 = .ok (.aload_n 0, 1) := by decide +kernel
theorem dX12_readMan_37 : decode cX12_readMan 37 = .ok (.iconst 3, 1) := by decide +kernel
theorem dX12_readMan_38 : decode cX12_readMan 38 = .ok (.invokevirtual 188, 3) := by decide +kernel
theorem dX12_readMan_41 : decode cX12_readMan 41 = .ok (.ifCond .eq 19, 3) := by decide +kernel
theorem dX12_readMan_44 : decode cX12_readMan 44 = .ok (.aload_n 0, 1) := by decide +kernel
theorem dX12_readMan_45 : decode cX12_readMan 45 = .ok (.getfield 22, 3) := by decide +kernel
theorem dX12_readMan_48 : decode cX12_readMan 48 = .ok (.iload_n 1, 1) := by decide +kernel
theorem dX12_readMan_49 : decode cX12_readMan 49 = .ok (.iload_n 2, 1) := by decide +kernel
theorem dX12_readMan_50 : decode cX12_readMan 50 = .ok (.iastore, 1) := by decide +kernel
theorem dX12_readMan_51 : decode cX12_readMan 51 = .ok (.aload_n 0, 1) := by decide +kernel
theorem dX12_readMan_52 : decode cX12_readMan 52 = .ok (.getfield 22, 3) := by decide +kernel
theorem dX12_readMan_55 : decode cX12_readMan 55 = .ok (.iload_n 1, 1) := by decide +kernel
theorem dX12_readMan_56 : decode cX12_readMan 56 = .ok (.iconst 1, 1) := by decide +kernel
theorem dX12_readMan_57 : decode cX12_readMan 57 = .ok (.iadd, 1) := by decide +kernel
theorem dX12_readMan_58 : decode cX12_readMan 58 = .ok (.iload_n 3, 1) := by decide +kernel
theorem dX12_readMan_59 : decode cX12_readMan 59 = .ok (.iastore, 1) := by decide +kernel
theorem dX12_readMan_60 : decode cX12_readMan 60 = .ok (.return_, 1) := by decide +kernel
theorem dX12_readSign_0 : decode cX12_readSign 0 = .ok (.aload_n 0, 1) := by decide +kernel
theorem dX12_readSign_1 : decode cX12_readSign 1 = .ok (.iconst 4, 1) := by decide +kernel
theorem dX12_readSign_2 : decode cX12_readSign 2 = .ok (.bipush 10, 2) := by decide +kernel
theorem dX12_readSign_4 : decode cX12_readSign 4 = .ok (.invokevirtual 169, 3) := by decide +kernel
theorem dX12_readSign_7 : decode cX12_readSign 7 = .ok (.bipush 40, 2) := by decide +kernel
theorem dX12_readSign_9 : decode cX12_readSign 9 = .ok (.iconst 2, 1) := by decide +kernel
theorem dX12_readSign_10 : decode cX12_readSign 10 = .ok (.aload_n 0, 1) := by decide +kernel
theorem dX12_readSign_11 : decode cX12_readSign 11 = .ok (.getfield 22, 3) := by decide +kernel
theorem dX12_readSign_14 : decode cX12_readSign 14 = .ok (.iconst 4, 1) := by decide +kernel
theorem dX12_readSign_15 : decode cX12_readSign 15 = .ok (.iaload, 1) := by decide +kernel
theorem dX12_readSign_16 : decode cX12_readSign 16 = .ok (.imul, 1) := by decide +kernel
theorem dX12_readSign_17 : decode cX12_readSign 17 = .ok (.iadd, 1) := by decide +kernel
theorem dX12_readSign_18 : decode cX12_readSign 18 = .ok (.istore_n 1, 1) := by decide +kernel
theorem dX12_readSign_19 : decode cX12_readSign 19 = .ok (.aload_n 0, 1) := by decide +kernel
theorem dX12_readSign_20 : decode cX12_readSign 20 = .ok (.aload_n 0, 1) := by decide +kernel
theorem dX12_readSign_21 : decode cX12_readSign 21 = .ok (.invokevirtual 173, 3) := by decide +kernel
theorem dX12_readSign_24 : decode cX12_readSign 24 = .ok (.invokestatic 191, 3) := by decide +kernel
theorem dX12_readSign_27 : decode cX12_readSign 27 = .ok (.invokevirtual 181, 3) := by decide +kernel
theorem dX12_readSign_30 : decode cX12_readSign 30 = .ok (.istore_n 2, 1) := by decide +kernel
theorem dX12_readSign_31 : decode cX12_readSign 31 = .ok (.aload_n 0, 1) := by decide +kernel
theorem dX12_readSign_32 : decode cX12_readSign 32 = .ok (.iconst 0, 1) := by decide +kernel
theorem dX12_readSign_33 : decode cX12_readSign 33 = .ok (.bipush 9, 2) := by decide +kernel
theorem dX12_readSign_35 : decode cX12_readSign 35 = .ok (.invokevirtual 184, 3) := by decide +kernel
theorem dX12_readSign_38 : decode cX12_readSign 38 = .ok (.istore_n 3, 1) := by decide +kernel
theorem dX12_readSign_39 : decode cX12_readSign 39 = .ok (.aload_n 0, 1) := by decide +kernel
theorem dX12_readSign_40 : decode cX12_readSign 40 = .ok (.iconst 4, 1) := by decide +kernel
theorem dX12_readSign_41 : decode cX12_readSign 41 = .ok (.invokevirtual 188, 3) := by decide +kernel
theorem dX12_readSign_44 : decode cX12_readSign 44 = .ok (.ifCond .eq 19, 3) := by decide +kernel
theorem dX12_readSign_47 : decode cX12_readSign 47 = .ok (.aload_n 0, 1) := by decide +kernel
theorem dX12_readSign_48 : decode cX12_readSign 48 = .ok (.getfield 22, 3) := by decide +kernel
theorem dX12_readSign_51 : decode cX12_readSign 51 = .ok (.iload_n 1, 1) := by decide +kernel
theorem dX12_readSign_52 : decode cX12_readSign 52 = .ok (.iload_n 2, 1) := by decide +kernel
theorem dX12_readSign_53 : decode cX12_readSign 53 = .ok (.iastore, 1) := by decide +kernel
theorem dX12_readSign_54 : decode cX12_readSign 54 = .ok (.aload_n 0, 1) := by decide +kernel
theorem dX12_readSign_55 : decode cX12_readSign 55 = .ok (.getfield 22, 3) := by decide +kernel
theorem dX12_readSign_58 : decode cX12_readSign 58 = .ok (.iload_n 1, 1) := by decide +kernel
theorem dX12_readSign_59 : decode cX12_readSign 59 = .ok (.iconst 1, 1) := by decide +kernel
theorem dX12_readSign_60 : decode cX12_readSign 60 = .ok (.iadd, 1) := by decide +kernel
theorem dX12_readSign_61 : decode cX12_readSign 61 = .ok (.iload_n 3, 1) := by decide +kernel
theorem dX12_readSign_62 : decode cX12_readSign 62 = .ok (.iastore, 1) := by decide +kernel
theorem dX12_readSign_63 : decode cX12_readSign 63 = .ok (.return_, 1) := by decide +kernel
theorem dX12_readStory_0 : decode cX12_readStory 0 = .ok (.aload_n 0, 1) := by decide +kernel
theorem dX12_readStory_1 : decode cX12_readStory 1 = .ok (.iconst 5, 1) := by decide +kernel
theorem dX12_readStory_2 : decode cX12_readStory 2 = .ok (.bipush 6, 2) := by decide +kernel
theorem dX12_readStory_4 : decode cX12_readStory 4 = .ok (.invokevirtual 169, 3) := by decide +kernel
theorem dX12_readStory_7 : decode cX12_readStory 7 = .ok (.bipush 60, 2) := by decide +kernel
theorem dX12_readStory_9 : decode cX12_readStory 9 = .ok (.iconst 3, 1) := by decide +kernel
theorem dX12_readStory_10 : decode cX12_readStory 10 = .ok (.aload_n 0, 1) := by decide +kernel
theorem dX12_readStory_11 : decode cX12_readStory 11 = .ok (.getfield 22, 3) := by decide +kernel
theorem dX12_readStory_14 : decode cX12_readStory 14 = .ok (.iconst 5, 1) := by decide +kernel
theorem dX12_readStory_15 : decode cX12_readStory 15 = .ok (.iaload, 1) := by decide +kernel
theorem dX12_readStory_16 : decode cX12_readStory 16 = .ok (.imul, 1) := by decide +kernel
theorem dX12_readStory_17 : decode cX12_readStory 17 = .ok (.iadd, 1) := by decide +kernel
theorem dX12_readStory_18 : decode cX12_readStory 18 = .ok (.istore_n 1, 1) := by decide +kernel
theorem dX12_readStory_19 : decode cX12_readStory 19 = .ok (.aload_n 0, 1) := by decide +kernel
theorem dX12_readStory_20 : decode cX12_readStory 20 = .ok (.iconst 1, 1) := by decide +kernel
theorem dX12_readStory_21 : decode cX12_readStory 21 = .ok (.bipush 9, 2) := by decide +kernel
theorem dX12_readStory_23 : decode cX12_readStory 23 = .ok (.invokevirtual 184, 3) := by decide +kernel
theorem dX12_readStory_26 : decode cX12_readStory 26 = .ok (.istore_n 2, 1) := by decide +kernel
theorem dX12_readStory_27 : decode cX12_readStory 27 = .ok (.iconst 0, 1) := by decide +kernel
theorem dX12_readStory_28 : decode cX12_readStory 28 = .ok (.istore_n 3, 1) := by decide +kernel
theorem dX12_readStory_29 : decode cX12_readStory 29 = .ok (.iconst 0, 1) := by decide +kernel
theorem dX12_readStory_30 : decode cX12_readStory 30 = .ok (.istore 4, 2) := by decide +kernel
theorem dX12_readStory_32 : decode cX12_readStory 32 = .ok (.aload_n 0, 1) := by decide +kernel
theorem dX12_readStory_33 : decode cX12_readStory 33 = .ok (.invokevirtual 173, 3) := by decide +kernel
theorem dX12_readStory_36 : decode cX12_readStory 36 = .ok (.ldc2_w 194, 3) := by decide +kernel
theorem dX12_readStory_39 : decode cX12_readStory 39 = .ok (.lcmp, 1) := by decide +kernel
theorem dX12_readStory_40 : decode cX12_readStory 40 = .ok (.ifCond .eq 14, 3) := by decide +kernel
theorem dX12_readStory_43 : decode cX12_readStory 43 = .ok (.aload_n 0, 1) := by decide +kernel
theorem dX12_readStory_44 : decode cX12_readStory 44 = .ok (.invokevirtual 173, 3) := by decide +kernel
theorem dX12_readStory_47 : decode cX12_readStory 47 = .ok (.ldc2_w 196, 3) := by decide +kernel
theorem dX12_readStory_50 : decode cX12_readStory 50 = .ok (.lcmp, 1) := by decide +kernel
theorem dX12_readStory_51 : decode cX12_readStory 51 = .ok (.ifCond .ne 87, 3) := by decide +kernel
theorem dX12_readStory_54 : decode cX12_readStory 54 = .ok (.aload_n 0, 1) := by decide +kernel
theorem dX12_readStory_55 : decode cX12_readStory 55 = .ok (.invokevirtual 173, 3) := by decide +kernel
theorem dX12_readStory_58 : decode cX12_readStory 58 = .ok (.ldc2_w 194, 3) := by decide +kernel
theorem dX12_readStory_61 : decode cX12_readStory 61 = .ok (.lcmp, 1) := by decide +kernel
theorem dX12_readStory_62 : decode cX12_readStory 62 = .ok (.ifCond .ne 7, 3) := by decide +kernel
theorem dX12_readStory_65 : decode cX12_readStory 65 = .ok (.iconst 1, 1) := by decide +kernel
theorem dX12_readStory_66 : decode cX12_readStory 66 = .ok (.goto 4, 3) := by decide +kernel
theorem dX12_readStory_69 : decode cX12_readStory 69 = .ok (.iconst 0, 1) := by decide +kernel
theorem dX12_readStory_70 : decode cX12_readStory 70 = .ok (.istore 5, 2) := by decide +kernel
theorem dX12_readStory_72 : decode cX12_readStory 72 = .ok (.aload_n 0, 1) := by decide +kernel
theorem dX12_readStory_73 : decode cX12_readStory 73 = .ok (.iconst 1, 1) := by decide +kernel
theorem dX12_readStory_74 : decode cX12_readStory 74 = .ok (.invokevirtual 135, 3) := by decide +kernel
theorem dX12_readStory_77 : decode cX12_readStory 77 = .ok (.iconst 1, 1) := by decide +kernel
theorem dX12_readStory_78 : decode cX12_readStory 78 = .ok (.aload_n 0, 1) := by decide +kernel
theorem dX12_readStory_79 : decode cX12_readStory 79 = .ok (.iconst 0, 1) := by decide +kernel
theorem dX12_readStory_80 : decode cX12_readStory 80 = .ok (.aload_n 0, 1) := by decide +kernel
theorem dX12_readStory_81 : decode cX12_readStory 81 = .ok (.getfield 22, 3) := by decide +kernel
theorem dX12_readStory_84 : decode cX12_readStory 84 = .ok (.iconst 4, 1) := by decide +kernel
theorem dX12_readStory_85 : decode cX12_readStory 85 = .ok (.iaload, 1) := by decide +kernel
theorem dX12_readStory_86 : decode cX12_readStory 86 = .ok (.iconst 1, 1) := by decide +kernel
theorem dX12_readStory_87 : decode cX12_readStory 87 = .ok (.isub, 1) := by decide +kernel
theorem dX12_readStory_88 : decode cX12_readStory 88 = .ok (.invokevirtual 184, 3) := by decide +kernel
theorem dX12_readStory_91 : decode cX12_readStory 91 = .ok (.ishl, 1) := by decide +kernel
theorem dX12_readStory_92 : decode cX12_readStory 92 = .ok (.istore 6, 2) := by decide +kernel
theorem dX12_readStory_94 : decode cX12_readStory 94 = .ok (.iload 5, 2) := by decide +kernel
theorem dX12_readStory_96 : decode cX12_readStory 96 = .ok (.ifCond .eq 10, 3) := by decide +kernel
theorem dX12_readStory_99 : decode cX12_readStory 99 = .ok (.iload_n 3, 1) := by decide +kernel
theorem dX12_readStory_100 : decode cX12_readStory 100 = .ok (.iload 6, 2) := by decide +kernel
theorem dX12_readStory_102 : decode cX12_readStory 102 = .ok (.ior, 1) := by decide +kernel
theorem dX12_readStory_103 : decode cX12_readStory 103 = .ok (.goto 9, 3) := by decide +kernel
theorem dX12_readStory_106 : decode cX12_readStory 106 = .ok (.iload_n 3, 1) := by decide +kernel
theorem dX12_readStory_107 : decode cX12_readStory 107 = .ok (.iload 6, 2) := by decide +kernel
theorem dX12_readStory_109 : decode cX12_readStory 109 = .ok (.iconst (-1), 1) := by decide +kernel
theorem dX12_readStory_110 : decode cX12_readStory 110 = .ok (.ixor, 1) := by decide +kernel
theorem dX12_readStory_111 : decode cX12_readStory 111 = .ok (.iand, 1) := by decide +kernel
theorem dX12_readStory_112 : decode cX12_readStory 112 = .ok (.istore_n 3, 1) := by decide +kernel
theorem dX12_readStory_113 : decode cX12_readStory 113 = .ok (.iload 5, 2) := by decide +kernel
theorem dX12_readStory_115 : decode cX12_readStory 115 = .ok (.ifCond .eq 13, 3) := by decide +kernel
theorem dX12_readStory_118 : decode cX12_readStory 118 = .ok (.iload 4, 2) := by decide +kernel
theorem dX12_readStory_120 : decode cX12_readStory 120 = .ok (.iload 6, 2) := by decide +kernel
theorem dX12_readStory_122 : decode cX12_readStory 122 = .ok (.iconst (-1), 1) := by decide +kernel
theorem dX12_readStory_123 : decode cX12_readStory 123 = .ok (.ixor, 1) := by decide +kernel
theorem dX12_readStory_124 : decode cX12_readStory 124 = .ok (.iand, 1) := by decide +kernel
theorem dX12_readStory_125 : decode cX12_readStory 125 = .ok (.goto 8, 3) := by decide +kernel
theorem dX12_readStory_128 : decode cX12_readStory 128 = .ok (.iload 4, 2) := by decide +kernel
theorem dX12_readStory_130 : decode cX12_readStory 130 = .ok (.iload 6, 2) := by decide +kernel
theorem dX12_readStory_132 : decode cX12_readStory 132 = .ok (.ior, 1) := by decide +kernel
theorem dX12_readStory_133 : decode cX12_readStory 133 = .ok (.istore 4, 2) := by decide +kernel
theorem dX12_readStory_135 : decode cX12_readStory 135 = .ok (.goto (-103), 3) := by decide +kernel
theorem dX12_readStory_138 : decode cX12_readStory 138 = .ok (.aload_n 0, 1) := by decide +kernel
theorem dX12_readStory_139 : decode cX12_readStory 139 = .ok (.iconst 5, 1) := by decide +kernel
theorem dX12_readStory_140 : decode cX12_readStory 140 = .ok (.invokevirtual 188, 3) := by decide +kernel
theorem dX12_readStory_143 : decode cX12_readStory 143 = .ok (.ifCond .eq 29, 3) := by decide +kernel
theorem dX12_readStory_146 : decode cX12_readStory 146 = .ok (.aload_n 0, 1) := by decide +kernel
theorem dX12_readStory_147 : decode cX12_readStory 147 = .ok (.getfield 22, 3) := by decide +kernel
theorem dX12_readStory_150 : decode cX12_readStory 150 = .ok (.iload_n 1, 1) := by decide +kernel
theorem dX12_readStory_151 : decode cX12_readStory 151 = .ok (.iload_n 2, 1) := by decide +kernel
theorem dX12_readStory_152 : decode cX12_readStory 152 = .ok (.iastore, 1) := by decide +kernel
theorem dX12_readStory_153 : decode cX12_readStory 153 = .ok (.aload_n 0, 1) := by decide +kernel
theorem dX12_readStory_154 : decode cX12_readStory 154 = .ok (.getfield 22, 3) := by decide +kernel
theorem dX12_readStory_157 : decode cX12_readStory 157 = .ok (.iload_n 1, 1) := by decide +kernel
theorem dX12_readStory_158 : decode cX12_readStory 158 = .ok (.iconst 1, 1) := by decide +kernel
theorem dX12_readStory_159 : decode cX12_readStory 159 = .ok (.iadd, 1) := by decide +kernel
theorem dX12_readStory_160 : decode cX12_readStory 160 = .ok (.iload_n 3, 1) := by decide +kernel
theorem dX12_readStory_161 : decode cX12_readStory 161 = .ok (.iastore, 1) := by decide +kernel
theorem dX12_readStory_162 : decode cX12_readStory 162 = .ok (.aload_n 0, 1) := by decide +kernel
theorem dX12_readStory_163 : decode cX12_readStory 163 = .ok (.getfield 22, 3) := by decide +kernel
theorem dX12_readStory_166 : decode cX12_readStory 166 = .ok (.iload_n 1, 1) := by decide +kernel
theorem dX12_readStory_167 : decode cX12_readStory 167 = .ok (.iconst 2, 1) := by decide +kernel
theorem dX12_readStory_168 : decode cX12_readStory 168 = .ok (.iadd, 1) := by decide +kernel
theorem dX12_readStory_169 : decode cX12_readStory 169 = .ok (.iload 4, 2) := by decide +kernel
theorem dX12_readStory_171 : decode cX12_readStory 171 = .ok (.iastore, 1) := by decide +kernel
theorem dX12_readStory_172 : decode cX12_readStory 172 = .ok (.return_, 1) := by decide +kernel
theorem dX12_readShore_0 : decode cX12_readShore 0 = .ok (.aload_n 0, 1) := by decide +kernel
theorem dX12_readShore_1 : decode cX12_readShore 1 = .ok (.aload_n 0, 1) := by decide +kernel
theorem dX12_readShore_2 : decode cX12_readShore 2 = .ok (.invokevirtual 173, 3) := by decide +kernel
theorem dX12_readShore_5 : decode cX12_readShore 5 = .ok (.ldc2_w 198, 3) := by decide +kernel
theorem dX12_readShore_8 : decode cX12_readShore 8 = .ok (.lcmp, 1) := by decide +kernel
theorem dX12_readShore_9 : decode cX12_readShore 9 = .ok (.ifCond .ne 7, 3) := by decide +kernel
theorem dX12_readShore_12 : decode cX12_readShore 12 = .ok (.iconst 1, 1) := by decide +kernel
theorem dX12_readShore_13 : decode cX12_readShore 13 = .ok (.goto 4, 3) := by decide +kernel
theorem dX12_readShore_16 : decode cX12_readShore 16 = .ok (.iconst 0, 1) := by decide +kernel
theorem dX12_readShore_17 : decode cX12_readShore 17 = .ok (.invokevirtual 135, 3) := by decide +kernel
theorem dX12_readShore_20 : decode cX12_readShore 20 = .ok (.aload_n 0, 1) := by decide +kernel
theorem dX12_readShore_21 : decode cX12_readShore 21 = .ok (.getfield 22, 3) := by decide +kernel
theorem dX12_readShore_24 : decode cX12_readShore 24 = .ok (.bipush 6, 2) := by decide +kernel
theorem dX12_readShore_26 : decode cX12_readShore 26 = .ok (.aload_n 0, 1) := by decide +kernel
theorem dX12_readShore_27 : decode cX12_readShore 27 = .ok (.iconst 1, 1) := by decide +kernel
theorem dX12_readShore_28 : decode cX12_readShore 28 = .ok (.bipush 16, 2) := by decide +kernel
theorem dX12_readShore_30 : decode cX12_readShore 30 = .ok (.invokevirtual 184, 3) := by decide +kernel
theorem dX12_readShore_33 : decode cX12_readShore 33 = .ok (.iastore, 1) := by decide +kernel
theorem dX12_readShore_34 : decode cX12_readShore 34 = .ok (.aload_n 0, 1) := by decide +kernel
theorem dX12_readShore_35 : decode cX12_readShore 35 = .ok (.getfield 22, 3) := by decide +kernel
theorem dX12_readShore_38 : decode cX12_readShore 38 = .ok (.bipush 7, 2) := by decide +kernel
theorem dX12_readShore_40 : decode cX12_readShore 40 = .ok (.aload_n 0, 1) := by decide +kernel
theorem dX12_readShore_41 : decode cX12_readShore 41 = .ok (.iconst 1, 1) := by decide +kernel
theorem dX12_readShore_42 : decode cX12_readShore 42 = .ok (.bipush 8, 2) := by decide +kernel
theorem dX12_readShore_44 : decode cX12_readShore 44 = .ok (.invokevirtual 184, 3) := by decide +kernel
theorem dX12_readShore_47 : decode cX12_readShore 47 = .ok (.iastore, 1) := by decide +kernel
theorem dX12_readShore_48 : decode cX12_readShore 48 = .ok (.aload_n 0, 1) := by decide +kernel
theorem dX12_readShore_49 : decode cX12_readShore 49 = .ok (.getfield 122, 3) := by decide +kernel
theorem dX12_readShore_52 : decode cX12_readShore 52 = .ok (.ifCond .ne 20, 3) := by decide +kernel
theorem dX12_readShore_55 : decode cX12_readShore 55 = .ok (.aload_n 0, 1) := by decide +kernel
theorem dX12_readShore_56 : decode cX12_readShore 56 = .ok (.aload_n 0, 1) := by decide +kernel
theorem dX12_readShore_57 : decode cX12_readShore 57 = .ok (.getfield 110, 3) := by decide +kernel
theorem dX12_readShore_60 : decode cX12_readShore 60 = .ok (.iconst 4, 1) := by decide +kernel
theorem dX12_readShore_61 : decode cX12_readShore 61 = .ok (.if_icmp .ne 7, 3) := by decide +kernel
theorem dX12_readShore_64 : decode cX12_readShore 64 = .ok (.iconst 1, 1) := by decide +kernel
theorem dX12_readShore_65 : decode cX12_readShore 65 = .ok (.goto 4, 3) := by decide +kernel
theorem dX12_readShore_68 : decode cX12_readShore 68 = .ok (.iconst 0, 1) := by decide +kernel
theorem dX12_readShore_69 : decode cX12_readShore 69 = .ok (.invokevirtual 135, 3) := by decide +kernel
theorem dX12_readShore_72 : decode cX12_readShore 72 = .ok (.aload_n 0, 1) := by decide +kernel
theorem dX12_readShore_73 : decode cX12_readShore 73 = .ok (.invokevirtual 173, 3) := by decide +kernel
theorem dX12_readShore_76 : decode cX12_readShore 76 = .ok (.ldc2_w 200, 3) := by decide +kernel
theorem dX12_readShore_79 : decode cX12_readShore 79 = .ok (.lcmp, 1) := by decide +kernel
theorem dX12_readShore_80 : decode cX12_readShore 80 = .ok (.ifCond .eq 8, 3) := by decide +kernel
theorem dX12_readShore_83 : decode cX12_readShore 83 = .ok (.aload_n 0, 1) := by decide +kernel
theorem dX12_readShore_84 : decode cX12_readShore 84 = .ok (.iconst 1, 1) := by decide +kernel
theorem dX12_readShore_85 : decode cX12_readShore 85 = .ok (.invokevirtual 128, 3) := by decide +kernel
theorem dX12_readShore_88 : decode cX12_readShore 88 = .ok (.aload_n 0, 1) := by decide +kernel
theorem dX12_readShore_89 : decode cX12_readShore 89 = .ok (.invokevirtual 173, 3) := by decide +kernel
theorem dX12_readShore_92 : decode cX12_readShore 92 = .ok (.ldc2_w 200, 3) := by decide +kernel
theorem dX12_readShore_95 : decode cX12_readShore 95 = .ok (.lcmp, 1) := by decide +kernel
theorem dX12_readShore_96 : decode cX12_readShore 96 = .ok (.ifCond .ne 10, 3) := by decide +kernel
theorem dX12_readShore_99 : decode cX12_readShore 99 = .ok (.aload_n 0, 1) := by decide +kernel
theorem dX12_readShore_100 : decode cX12_readShore 100 = .ok (.invokevirtual 202, 3) := by decide +kernel
theorem dX12_readShore_103 : decode cX12_readShore 103 = .ok (.goto (-15), 3) := by decide +kernel
theorem dX12_readShore_106 : decode cX12_readShore 106 = .ok (.aload_n 0, 1) := by decide +kernel
theorem dX12_readShore_107 : decode cX12_readShore 107 = .ok (.invokevirtual 173, 3) := by decide +kernel
theorem dX12_readShore_110 : decode cX12_readShore 110 = .ok (.ldc2_w 205, 3) := by decide +kernel
theorem dX12_readShore_113 : decode cX12_readShore 113 = .ok (.lcmp, 1) := by decide +kernel
theorem dX12_readShore_114 : decode cX12_readShore 114 = .ok (.ifCond .ne 10, 3) := by decide +kernel
theorem dX12_readShore_117 : decode cX12_readShore 117 = .ok (.aload_n 0, 1) := by decide +kernel
theorem dX12_readShore_118 : decode cX12_readShore 118 = .ok (.invokevirtual 207, 3) := by decide +kernel
theorem dX12_readShore_121 : decode cX12_readShore 121 = .ok (.goto (-15), 3) := by decide +kernel
theorem dX12_readShore_124 : decode cX12_readShore 124 = .ok (.return_, 1) := by decide +kernel
theorem dX12_sea_0 : decode cX12_sea 0 = .ok (.aload_n 0, 1) := by decide +kernel
theorem dX12_sea_1 : decode cX12_sea 1 = .ok (.iconst 0, 1) := by decide +kernel
theorem dX12_sea_2 : decode cX12_sea 2 = .ok (.putfield 60, 3) := by decide +kernel
theorem dX12_sea_5 : decode cX12_sea 5 = .ok (.aload_n 0, 1) := by decide +kernel
theorem dX12_sea_6 : decode cX12_sea 6 = .ok (.aload_n 0, 1) := by decide +kernel
theorem dX12_sea_7 : decode cX12_sea 7 = .ok (.getfield 89, 3) := by decide +kernel
theorem dX12_sea_10 : decode cX12_sea 10 = .ok (.putfield 96, 3) := by decide +kernel
theorem dX12_sea_13 : decode cX12_sea 13 = .ok (.aload_n 0, 1) := by decide +kernel
theorem dX12_sea_14 : decode cX12_sea 14 = .ok (.iconst 0, 1) := by decide +kernel
theorem dX12_sea_15 : decode cX12_sea 15 = .ok (.putfield 89, 3) := by decide +kernel
theorem dX12_sea_18 : decode cX12_sea 18 = .ok (.aload_n 0, 1) := by decide +kernel
theorem dX12_sea_19 : decode cX12_sea 19 = .ok (.iconst 0, 1) := by decide +kernel
theorem dX12_sea_20 : decode cX12_sea 20 = .ok (.putfield 100, 3) := by decide +kernel
theorem dX12_sea_23 : decode cX12_sea 23 = .ok (.aload_n 0, 1) := by decide +kernel
theorem dX12_sea_24 : decode cX12_sea 24 = .ok (.iconst 0, 1) := by decide +kernel
theorem dX12_sea_25 : decode cX12_sea 25 = .ok (.putfield 122, 3) := by decide +kernel
theorem dX12_sea_28 : decode cX12_sea 28 = .ok (.iconst 0, 1) := by decide +kernel
theorem dX12_sea_29 : decode cX12_sea 29 = .ok (.istore_n 1, 1) := by decide +kernel
theorem dX12_sea_30 : decode cX12_sea 30 = .ok (.iload_n 1, 1) := by decide +kernel
theorem dX12_sea_31 : decode cX12_sea 31 = .ok (.sipush 206, 3) := by decide +kernel
theorem dX12_sea_34 : decode cX12_sea 34 = .ok (.if_icmp .ge 16, 3) := by decide +kernel
theorem dX12_sea_37 : decode cX12_sea 37 = .ok (.aload_n 0, 1) := by decide +kernel
theorem dX12_sea_38 : decode cX12_sea 38 = .ok (.getfield 22, 3) := by decide +kernel
theorem dX12_sea_41 : decode cX12_sea 41 = .ok (.iload_n 1, 1) := by decide +kernel
theorem dX12_sea_42 : decode cX12_sea 42 = .ok (.iconst 0, 1) := by decide +kernel
theorem dX12_sea_43 : decode cX12_sea 43 = .ok (.iastore, 1) := by decide +kernel
theorem dX12_sea_44 : decode cX12_sea 44 = .ok (.iinc 1 1, 3) := by decide +kernel
theorem dX12_sea_47 : decode cX12_sea 47 = .ok (.goto (-17), 3) := by decide +kernel
theorem dX12_sea_50 : decode cX12_sea 50 = .ok (.aload_n 0, 1) := by decide +kernel
theorem dX12_sea_51 : decode cX12_sea 51 = .ok (.invokevirtual 132, 3) := by decide +kernel
theorem dX12_sea_54 : decode cX12_sea 54 = .ok (.aload_n 0, 1) := by decide +kernel
theorem dX12_sea_55 : decode cX12_sea 55 = .ok (.invokevirtual 210, 3) := by decide +kernel
theorem dX12_sea_58 : decode cX12_sea 58 = .ok (.aload_n 0, 1) := by decide +kernel
theorem dX12_sea_59 : decode cX12_sea 59 = .ok (.invokevirtual 173, 3) := by decide +kernel
theorem dX12_sea_62 : decode cX12_sea 62 = .ok (.ldc2_w 213, 3) := by decide +kernel
theorem dX12_sea_65 : decode cX12_sea 65 = .ok (.lcmp, 1) := by decide +kernel
theorem dX12_sea_66 : decode cX12_sea 66 = .ok (.ifCond .ne 10, 3) := by decide +kernel
theorem dX12_sea_69 : decode cX12_sea 69 = .ok (.aload_n 0, 1) := by decide +kernel
theorem dX12_sea_70 : decode cX12_sea 70 = .ok (.invokevirtual 215, 3) := by decide +kernel
theorem dX12_sea_73 : decode cX12_sea 73 = .ok (.goto 8, 3) := by decide +kernel
theorem dX12_sea_76 : decode cX12_sea 76 = .ok (.aload_n 0, 1) := by decide +kernel
theorem dX12_sea_77 : decode cX12_sea 77 = .ok (.iconst 1, 1) := by decide +kernel
theorem dX12_sea_78 : decode cX12_sea 78 = .ok (.invokevirtual 128, 3) := by decide +kernel
theorem dX12_sea_81 : decode cX12_sea 81 = .ok (.aload_n 0, 1) := by decide +kernel
theorem dX12_sea_82 : decode cX12_sea 82 = .ok (.invokevirtual 173, 3) := by decide +kernel
theorem dX12_sea_85 : decode cX12_sea 85 = .ok (.ldc2_w 218, 3) := by decide +kernel
theorem dX12_sea_88 : decode cX12_sea 88 = .ok (.lcmp, 1) := by decide +kernel
theorem dX12_sea_89 : decode cX12_sea 89 = .ok (.ifCond .ne 10, 3) := by decide +kernel
theorem dX12_sea_92 : decode cX12_sea 92 = .ok (.aload_n 0, 1) := by decide +kernel
theorem dX12_sea_93 : decode cX12_sea 93 = .ok (.invokevirtual 220, 3) := by decide +kernel
theorem dX12_sea_96 : decode cX12_sea 96 = .ok (.goto (-15), 3) := by decide +kernel
theorem dX12_sea_99 : decode cX12_sea 99 = .ok (.aload_n 0, 1) := by decide +kernel
theorem dX12_sea_100 : decode cX12_sea 100 = .ok (.invokevirtual 173, 3) := by decide +kernel
theorem dX12_sea_103 : decode cX12_sea 103 = .ok (.ldc2_w 223, 3) := by decide +kernel
theorem dX12_sea_106 : decode cX12_sea 106 = .ok (.lcmp, 1) := by decide +kernel
theorem dX12_sea_107 : decode cX12_sea 107 = .ok (.ifCond .ne 10, 3) := by decide +kernel
theorem dX12_sea_110 : decode cX12_sea 110 = .ok (.aload_n 0, 1) := by decide +kernel
theorem dX12_sea_111 : decode cX12_sea 111 = .ok (.invokevirtual 225, 3) := by decide +kernel
theorem dX12_sea_114 : decode cX12_sea 114 = .ok (.goto (-15), 3) := by decide +kernel
theorem dX12_sea_117 : decode cX12_sea 117 = .ok (.aload_n 0, 1) := by decide +kernel
theorem dX12_sea_118 : decode cX12_sea 118 = .ok (.invokevirtual 173, 3) := by decide +kernel
theorem dX12_sea_121 : decode cX12_sea 121 = .ok (.ldc2_w 228, 3) := by decide +kernel
theorem dX12_sea_124 : decode cX12_sea 124 = .ok (.lcmp, 1) := by decide +kernel
theorem dX12_sea_125 : decode cX12_sea 125 = .ok (.ifCond .ne 10, 3) := by decide +kernel
theorem dX12_sea_128 : decode cX12_sea 128 = .ok (.aload_n 0, 1) := by decide +kernel
theorem dX12_sea_129 : decode cX12_sea 129 = .ok (.invokevirtual 230, 3) := by decide +kernel
theorem dX12_sea_132 : decode cX12_sea 132 = .ok (.goto (-15), 3) := by decide +kernel
theorem dX12_sea_135 : decode cX12_sea 135 = .ok (.aload_n 0, 1) := by decide +kernel
theorem dX12_sea_136 : decode cX12_sea 136 = .ok (.getfield 122, 3) := by decide +kernel
theorem dX12_sea_139 : decode cX12_sea 139 = .ok (.ifCond .ne 16, 3) := by decide +kernel
theorem dX12_sea_142 : decode cX12_sea 142 = .ok (.aload_n 0, 1) := by decide +kernel
theorem dX12_sea_143 : decode cX12_sea 143 = .ok (.getfield 110, 3) := by decide +kernel
theorem dX12_sea_146 : decode cX12_sea 146 = .ok (.iconst 1, 1) := by decide +kernel
theorem dX12_sea_147 : decode cX12_sea 147 = .ok (.if_icmp .eq 8, 3) := by decide +kernel
theorem dX12_sea_150 : decode cX12_sea 150 = .ok (.aload_n 0, 1) := by decide +kernel
theorem dX12_sea_151 : decode cX12_sea 151 = .ok (.iconst 1, 1) := by decide +kernel
theorem dX12_sea_152 : decode cX12_sea 152 = .ok (.invokevirtual 128, 3) := by decide +kernel
theorem dX12_sea_155 : decode cX12_sea 155 = .ok (.aload_n 0, 1) := by decide +kernel
theorem dX12_sea_156 : decode cX12_sea 156 = .ok (.getfield 122, 3) := by decide +kernel
theorem dX12_sea_159 : decode cX12_sea 159 = .ok (.ifCond .le 21, 3) := by decide +kernel
theorem dX12_sea_162 : decode cX12_sea 162 = .ok (.aload_n 0, 1) := by decide +kernel
theorem dX12_sea_163 : decode cX12_sea 163 = .ok (.aload_n 0, 1) := by decide +kernel
theorem dX12_sea_164 : decode cX12_sea 164 = .ok (.getfield 122, 3) := by decide +kernel
theorem dX12_sea_167 : decode cX12_sea 167 = .ok (.putfield 233, 3) := by decide +kernel
theorem dX12_sea_170 : decode cX12_sea 170 = .ok (.ldc2_w 236, 3) := by decide +kernel
theorem dX12_sea_173 : decode cX12_sea 173 = .ok (.aload_n 0, 1) := by decide +kernel
theorem dX12_sea_174 : decode cX12_sea 174 = .ok (.getfield 125, 3) := by decide +kernel
theorem dX12_sea_177 : decode cX12_sea 177 = .ok (.i2l, 1) := by decide +kernel
theorem dX12_sea_178 : decode cX12_sea 178 = .ok (.lsub, 1) := by decide +kernel
theorem dX12_sea_179 : decode cX12_sea 179 = .ok (.lreturn, 1) := by decide +kernel
theorem dX12_sea_180 : decode cX12_sea 180 = .ok (.aload_n 0, 1) := by decide +kernel
theorem dX12_sea_181 : decode cX12_sea 181 = .ok (.iconst 1, 1) := by decide +kernel
theorem dX12_sea_182 : decode cX12_sea 182 = .ok (.putfield 238, 3) := by decide +kernel
theorem dX12_sea_185 : decode cX12_sea 185 = .ok (.iconst 0, 1) := by decide +kernel
theorem dX12_sea_186 : decode cX12_sea 186 = .ok (.istore_n 1, 1) := by decide +kernel
theorem dX12_sea_187 : decode cX12_sea 187 = .ok (.iload_n 1, 1) := by decide +kernel
theorem dX12_sea_188 : decode cX12_sea 188 = .ok (.sipush 206, 3) := by decide +kernel
theorem dX12_sea_191 : decode cX12_sea 191 = .ok (.if_icmp .ge 21, 3) := by decide +kernel
theorem dX12_sea_194 : decode cX12_sea 194 = .ok (.aload_n 0, 1) := by decide +kernel
theorem dX12_sea_195 : decode cX12_sea 195 = .ok (.getfield 19, 3) := by decide +kernel
theorem dX12_sea_198 : decode cX12_sea 198 = .ok (.iload_n 1, 1) := by decide +kernel
theorem dX12_sea_199 : decode cX12_sea 199 = .ok (.aload_n 0, 1) := by decide +kernel
theorem dX12_sea_200 : decode cX12_sea 200 = .ok (.getfield 22, 3) := by decide +kernel
theorem dX12_sea_203 : decode cX12_sea 203 = .ok (.iload_n 1, 1) := by decide +kernel
theorem dX12_sea_204 : decode cX12_sea 204 = .ok (.iaload, 1) := by decide +kernel
theorem dX12_sea_205 : decode cX12_sea 205 = .ok (.iastore, 1) := by decide +kernel
theorem dX12_sea_206 : decode cX12_sea 206 = .ok (.iinc 1 1, 3) := by decide +kernel
theorem dX12_sea_209 : decode cX12_sea 209 = .ok (.goto (-22), 3) := by decide +kernel
theorem dX12_sea_212 : decode cX12_sea 212 = .ok (.iconst 0, 1) := by decide +kernel
theorem dX12_sea_213 : decode cX12_sea 213 = .ok (.istore_n 1, 1) := by decide +kernel
theorem dX12_sea_214 : decode cX12_sea 214 = .ok (.iload_n 1, 1) := by decide +kernel
theorem dX12_sea_215 : decode cX12_sea 215 = .ok (.bipush 8, 2) := by decide +kernel
theorem dX12_sea_217 : decode cX12_sea 217 = .ok (.if_icmp .ge 16, 3) := by decide +kernel
theorem dX12_sea_220 : decode cX12_sea 220 = .ok (.aload_n 0, 1) := by decide +kernel
theorem dX12_sea_221 : decode cX12_sea 221 = .ok (.getfield 25, 3) := by decide +kernel
theorem dX12_sea_224 : decode cX12_sea 224 = .ok (.iload_n 1, 1) := by decide +kernel
theorem dX12_sea_225 : decode cX12_sea 225 = .ok (.iconst 0, 1) := by decide +kernel
theorem dX12_sea_226 : decode cX12_sea 226 = .ok (.iastore, 1) := by decide +kernel
theorem dX12_sea_227 : decode cX12_sea 227 = .ok (.iinc 1 1, 3) := by decide +kernel
theorem dX12_sea_230 : decode cX12_sea 230 = .ok (.goto (-16), 3) := by decide +kernel
theorem dX12_sea_233 : decode cX12_sea 233 = .ok (.aload_n 0, 1) := by decide +kernel
theorem dX12_sea_234 : decode cX12_sea 234 = .ok (.getfield 25, 3) := by decide +kernel
theorem dX12_sea_237 : decode cX12_sea 237 = .ok (.bipush 7, 2) := by decide +kernel
theorem dX12_sea_239 : decode cX12_sea 239 = .ok (.aload_n 0, 1) := by decide +kernel
theorem dX12_sea_240 : decode cX12_sea 240 = .ok (.getfield 19, 3) := by decide +kernel
theorem dX12_sea_243 : decode cX12_sea 243 = .ok (.bipush 8, 2) := by decide +kernel
theorem dX12_sea_245 : decode cX12_sea 245 = .ok (.iaload, 1) := by decide +kernel
theorem dX12_sea_246 : decode cX12_sea 246 = .ok (.iastore, 1) := by decide +kernel
theorem dX12_sea_247 : decode cX12_sea 247 = .ok (.aload_n 0, 1) := by decide +kernel
theorem dX12_sea_248 : decode cX12_sea 248 = .ok (.getfield 19, 3) := by decide +kernel
theorem dX12_sea_251 : decode cX12_sea 251 = .ok (.iconst 5, 1) := by decide +kernel
theorem dX12_sea_252 : decode cX12_sea 252 = .ok (.iaload, 1) := by decide +kernel
theorem dX12_sea_253 : decode cX12_sea 253 = .ok (.i2l, 1) := by decide +kernel
theorem dX12_sea_254 : decode cX12_sea 254 = .ok (.lreturn, 1) := by decide +kernel
theorem dX12_fault_0 : decode cX12_fault 0 = .ok (.aload_n 0, 1) := by decide +kernel
theorem dX12_fault_1 : decode cX12_fault 1 = .ok (.iconst 0, 1) := by decide +kernel
theorem dX12_fault_2 : decode cX12_fault 2 = .ok (.putfield 60, 3) := by decide +kernel
theorem dX12_fault_5 : decode cX12_fault 5 = .ok (.aload_n 0, 1) := by decide +kernel
theorem dX12_fault_6 : decode cX12_fault 6 = .ok (.getfield 233, 3) := by decide +kernel
theorem dX12_fault_9 : decode cX12_fault 9 = .ok (.ireturn, 1) := by decide +kernel
theorem dX12_isCell_0 : decode cX12_isCell 0 = .ok (.iload_n 1, 1) := by decide +kernel
theorem dX12_isCell_1 : decode cX12_isCell 1 = .ok (.i2l, 1) := by decide +kernel
theorem dX12_isCell_2 : decode cX12_isCell 2 = .ok (.lconst 0, 1) := by decide +kernel
theorem dX12_isCell_3 : decode cX12_isCell 3 = .ok (.aload_n 0, 1) := by decide +kernel
theorem dX12_isCell_4 : decode cX12_isCell 4 = .ok (.getfield 19, 3) := by decide +kernel
theorem dX12_isCell_7 : decode cX12_isCell 7 = .ok (.bipush 6, 2) := by decide +kernel
theorem dX12_isCell_9 : decode cX12_isCell 9 = .ok (.iaload, 1) := by decide +kernel
theorem dX12_isCell_10 : decode cX12_isCell 10 = .ok (.iconst 1, 1) := by decide +kernel
theorem dX12_isCell_11 : decode cX12_isCell 11 = .ok (.isub, 1) := by decide +kernel
theorem dX12_isCell_12 : decode cX12_isCell 12 = .ok (.i2l, 1) := by decide +kernel
theorem dX12_isCell_13 : decode cX12_isCell 13 = .ok (.invokestatic 71, 3) := by decide +kernel
theorem dX12_isCell_16 : decode cX12_isCell 16 = .ok (.ifCond .eq 26, 3) := by decide +kernel
theorem dX12_isCell_19 : decode cX12_isCell 19 = .ok (.iload_n 2, 1) := by decide +kernel
theorem dX12_isCell_20 : decode cX12_isCell 20 = .ok (.i2l, 1) := by decide +kernel
theorem dX12_isCell_21 : decode cX12_isCell 21 = .ok (.lconst 0, 1) := by decide +kernel
theorem dX12_isCell_22 : decode cX12_isCell 22 = .ok (.aload_n 0, 1) := by decide +kernel
theorem dX12_isCell_23 : decode cX12_isCell 23 = .ok (.getfield 19, 3) := by decide +kernel
theorem dX12_isCell_26 : decode cX12_isCell 26 = .ok (.bipush 7, 2) := by decide +kernel
theorem dX12_isCell_28 : decode cX12_isCell 28 = .ok (.iaload, 1) := by decide +kernel
theorem dX12_isCell_29 : decode cX12_isCell 29 = .ok (.iconst 1, 1) := by decide +kernel
theorem dX12_isCell_30 : decode cX12_isCell 30 = .ok (.isub, 1) := by decide +kernel
theorem dX12_isCell_31 : decode cX12_isCell 31 = .ok (.i2l, 1) := by decide +kernel
theorem dX12_isCell_32 : decode cX12_isCell 32 = .ok (.invokestatic 71, 3) := by decide +kernel
theorem dX12_isCell_35 : decode cX12_isCell 35 = .ok (.ifCond .eq 7, 3) := by decide +kernel
theorem dX12_isCell_38 : decode cX12_isCell 38 = .ok (.iconst 1, 1) := by decide +kernel
theorem dX12_isCell_39 : decode cX12_isCell 39 = .ok (.goto 4, 3) := by decide +kernel
theorem dX12_isCell_42 : decode cX12_isCell 42 = .ok (.iconst 0, 1) := by decide +kernel
theorem dX12_isCell_43 : decode cX12_isCell 43 = .ok (.ireturn, 1) := by decide +kernel
theorem dX12_isLand_0 : decode cX12_isLand 0 = .ok (.aload_n 0, 1) := by decide +kernel
theorem dX12_isLand_1 : decode cX12_isLand 1 = .ok (.getfield 19, 3) := by decide +kernel
theorem dX12_isLand_4 : decode cX12_isLand 4 = .ok (.bipush 78, 2) := by decide +kernel
theorem dX12_isLand_6 : decode cX12_isLand 6 = .ok (.iload_n 1, 1) := by decide +kernel
theorem dX12_isLand_7 : decode cX12_isLand 7 = .ok (.iadd, 1) := by decide +kernel
theorem dX12_isLand_8 : decode cX12_isLand 8 = .ok (.iaload, 1) := by decide +kernel
theorem dX12_isLand_9 : decode cX12_isLand 9 = .ok (.iconst 1, 1) := by decide +kernel
theorem dX12_isLand_10 : decode cX12_isLand 10 = .ok (.if_icmp .ne 7, 3) := by decide +kernel
theorem dX12_isLand_13 : decode cX12_isLand 13 = .ok (.iconst 1, 1) := by decide +kernel
theorem dX12_isLand_14 : decode cX12_isLand 14 = .ok (.goto 4, 3) := by decide +kernel
theorem dX12_isLand_17 : decode cX12_isLand 17 = .ok (.iconst 0, 1) := by decide +kernel
theorem dX12_isLand_18 : decode cX12_isLand 18 = .ok (.ireturn, 1) := by decide +kernel
theorem dX12_isWater_0 : decode cX12_isWater 0 = .ok (.aload_n 0, 1) := by decide +kernel
theorem dX12_isWater_1 : decode cX12_isWater 1 = .ok (.iload_n 1, 1) := by decide +kernel
theorem dX12_isWater_2 : decode cX12_isWater 2 = .ok (.iload_n 2, 1) := by decide +kernel
theorem dX12_isWater_3 : decode cX12_isWater 3 = .ok (.invokevirtual 242, 3) := by decide +kernel
theorem dX12_isWater_6 : decode cX12_isWater 6 = .ok (.ifCond .eq 20, 3) := by decide +kernel
theorem dX12_isWater_9 : decode cX12_isWater 9 = .ok (.aload_n 0, 1) := by decide +kernel
theorem dX12_isWater_10 : decode cX12_isWater 10 = .ok (.bipush 16, 2) := by decide +kernel
theorem dX12_isWater_12 : decode cX12_isWater 12 = .ok (.iload_n 2, 1) := by decide +kernel
theorem dX12_isWater_13 : decode cX12_isWater 13 = .ok (.imul, 1) := by decide +kernel
theorem dX12_isWater_14 : decode cX12_isWater 14 = .ok (.iload_n 1, 1) := by decide +kernel
theorem dX12_isWater_15 : decode cX12_isWater 15 = .ok (.iadd, 1) := by decide +kernel
theorem dX12_isWater_16 : decode cX12_isWater 16 = .ok (.invokevirtual 246, 3) := by decide +kernel
theorem dX12_isWater_19 : decode cX12_isWater 19 = .ok (.ifCond .ne 7, 3) := by decide +kernel
theorem dX12_isWater_22 : decode cX12_isWater 22 = .ok (.iconst 1, 1) := by decide +kernel
theorem dX12_isWater_23 : decode cX12_isWater 23 = .ok (.goto 4, 3) := by decide +kernel
theorem dX12_isWater_26 : decode cX12_isWater 26 = .ok (.iconst 0, 1) := by decide +kernel
theorem dX12_isWater_27 : decode cX12_isWater 27 = .ok (.ireturn, 1) := by decide +kernel
theorem dX12_isAny_0 : decode cX12_isAny 0 = .ok (.iload_n 1, 1) := by decide +kernel
theorem dX12_isAny_1 : decode cX12_isAny 1 = .ok (.ifCond .lt 22, 3) := by decide +kernel
theorem dX12_isAny_4 : decode cX12_isAny 4 = .ok (.aload_n 0, 1) := by decide +kernel
theorem dX12_isAny_5 : decode cX12_isAny 5 = .ok (.iload_n 1, 1) := by decide +kernel
theorem dX12_isAny_6 : decode cX12_isAny 6 = .ok (.bipush 16, 2) := by decide +kernel
theorem dX12_isAny_8 : decode cX12_isAny 8 = .ok (.irem, 1) := by decide +kernel
theorem dX12_isAny_9 : decode cX12_isAny 9 = .ok (.iload_n 1, 1) := by decide +kernel
theorem dX12_isAny_10 : decode cX12_isAny 10 = .ok (.bipush 16, 2) := by decide +kernel
theorem dX12_isAny_12 : decode cX12_isAny 12 = .ok (.idiv, 1) := by decide +kernel
theorem dX12_isAny_13 : decode cX12_isAny 13 = .ok (.invokevirtual 242, 3) := by decide +kernel
theorem dX12_isAny_16 : decode cX12_isAny 16 = .ok (.ifCond .eq 7, 3) := by decide +kernel
theorem dX12_isAny_19 : decode cX12_isAny 19 = .ok (.iconst 1, 1) := by decide +kernel
theorem dX12_isAny_20 : decode cX12_isAny 20 = .ok (.goto 4, 3) := by decide +kernel
theorem dX12_isAny_23 : decode cX12_isAny 23 = .ok (.iconst 0, 1) := by decide +kernel
theorem dX12_isAny_24 : decode cX12_isAny 24 = .ok (.ireturn, 1) := by decide +kernel
theorem dX12_isOpen_0 : decode cX12_isOpen 0 = .ok (.aload_n 0, 1) := by decide +kernel
theorem dX12_isOpen_1 : decode cX12_isOpen 1 = .ok (.iload_n 1, 1) := by decide +kernel
theorem dX12_isOpen_2 : decode cX12_isOpen 2 = .ok (.invokevirtual 249, 3) := by decide +kernel
theorem dX12_isOpen_5 : decode cX12_isOpen 5 = .ok (.ifCond .eq 15, 3) := by decide +kernel
theorem dX12_isOpen_8 : decode cX12_isOpen 8 = .ok (.aload_n 0, 1) := by decide +kernel
theorem dX12_isOpen_9 : decode cX12_isOpen 9 = .ok (.iload_n 1, 1) := by decide +kernel
theorem dX12_isOpen_10 : decode cX12_isOpen 10 = .ok (.invokevirtual 246, 3) := by decide +kernel
theorem dX12_isOpen_13 : decode cX12_isOpen 13 = .ok (.ifCond .ne 7, 3) := by decide +kernel
theorem dX12_isOpen_16 : decode cX12_isOpen 16 = .ok (.iconst 1, 1) := by decide +kernel
theorem dX12_isOpen_17 : decode cX12_isOpen 17 = .ok (.goto 4, 3) := by decide +kernel
theorem dX12_isOpen_20 : decode cX12_isOpen 20 = .ok (.iconst 0, 1) := by decide +kernel
theorem dX12_isOpen_21 : decode cX12_isOpen 21 = .ok (.ireturn, 1) := by decide +kernel
theorem dX12_goneTo_0 : decode cX12_goneTo 0 = .ok (.iload_n 2, 1) := by decide +kernel
theorem dX12_goneTo_1 : decode cX12_goneTo 1 = .ok (.iconst 4, 1) := by decide +kernel
theorem dX12_goneTo_2 : decode cX12_goneTo 2 = .ok (.irem, 1) := by decide +kernel
theorem dX12_goneTo_3 : decode cX12_goneTo 3 = .ok (.ifCond .ne 7, 3) := by decide +kernel
theorem dX12_goneTo_6 : decode cX12_goneTo 6 = .ok (.iconst 0, 1) := by decide +kernel
theorem dX12_goneTo_7 : decode cX12_goneTo 7 = .ok (.goto 13, 3) := by decide +kernel
theorem dX12_goneTo_10 : decode cX12_goneTo 10 = .ok (.iload_n 2, 1) := by decide +kernel
theorem dX12_goneTo_11 : decode cX12_goneTo 11 = .ok (.iconst 4, 1) := by decide +kernel
theorem dX12_goneTo_12 : decode cX12_goneTo 12 = .ok (.if_icmp .ge 7, 3) := by decide +kernel
theorem dX12_goneTo_15 : decode cX12_goneTo 15 = .ok (.iconst 1, 1) := by decide +kernel
theorem dX12_goneTo_16 : decode cX12_goneTo 16 = .ok (.goto 4, 3) := by decide +kernel
theorem dX12_goneTo_19 : decode cX12_goneTo 19 = .ok (.iconst (-1), 1) := by decide +kernel
theorem dX12_goneTo_20 : decode cX12_goneTo 20 = .ok (.istore_n 3, 1) := by decide +kernel
theorem dX12_goneTo_21 : decode cX12_goneTo 21 = .ok (.iload_n 2, 1) := by decide +kernel
theorem dX12_goneTo_22 : decode cX12_goneTo 22 = .ok (.iconst 4, 1) := by decide +kernel
theorem dX12_goneTo_23 : decode cX12_goneTo 23 = .ok (.irem, 1) := by decide +kernel
theorem dX12_goneTo_24 : decode cX12_goneTo 24 = .ok (.iconst 2, 1) := by decide +kernel
theorem dX12_goneTo_25 : decode cX12_goneTo 25 = .ok (.if_icmp .ne 7, 3) := by decide +kernel
theorem dX12_goneTo_28 : decode cX12_goneTo 28 = .ok (.iconst 0, 1) := by decide +kernel
theorem dX12_goneTo_29 : decode cX12_goneTo 29 = .ok (.goto 22, 3) := by decide +kernel
theorem dX12_goneTo_32 : decode cX12_goneTo 32 = .ok (.iload_n 2, 1) := by decide +kernel
theorem dX12_goneTo_33 : decode cX12_goneTo 33 = .ok (.i2l, 1) := by decide +kernel
theorem dX12_goneTo_34 : decode cX12_goneTo 34 = .ok (.ldc2_w 252, 3) := by decide +kernel
theorem dX12_goneTo_37 : decode cX12_goneTo 37 = .ok (.ldc2_w 254, 3) := by decide +kernel
theorem dX12_goneTo_40 : decode cX12_goneTo 40 = .ok (.invokestatic 71, 3) := by decide +kernel
theorem dX12_goneTo_43 : decode cX12_goneTo 43 = .ok (.ifCond .eq 7, 3) := by decide +kernel
theorem dX12_goneTo_46 : decode cX12_goneTo 46 = .ok (.iconst 1, 1) := by decide +kernel
theorem dX12_goneTo_47 : decode cX12_goneTo 47 = .ok (.goto 4, 3) := by decide +kernel
theorem dX12_goneTo_50 : decode cX12_goneTo 50 = .ok (.iconst (-1), 1) := by decide +kernel
theorem dX12_goneTo_51 : decode cX12_goneTo 51 = .ok (.istore 4, 2) := by decide +kernel
theorem dX12_goneTo_53 : decode cX12_goneTo 53 = .ok (.iload_n 1, 1) := by decide +kernel
theorem dX12_goneTo_54 : decode cX12_goneTo 54 = .ok (.bipush 16, 2) := by decide +kernel
theorem dX12_goneTo_56 : decode cX12_goneTo 56 = .ok (.irem, 1) := by decide +kernel
theorem dX12_goneTo_57 : decode cX12_goneTo 57 = .ok (.iload_n 3, 1) := by decide +kernel
theorem dX12_goneTo_58 : decode cX12_goneTo 58 = .ok (.iadd, 1) := by decide +kernel
theorem dX12_goneTo_59 : decode cX12_goneTo 59 = .ok (.istore 5, 2) := by decide +kernel
theorem dX12_goneTo_61 : decode cX12_goneTo 61 = .ok (.iload_n 1, 1) := by decide +kernel
theorem dX12_goneTo_62 : decode cX12_goneTo 62 = .ok (.bipush 16, 2) := by decide +kernel
theorem dX12_goneTo_64 : decode cX12_goneTo 64 = .ok (.idiv, 1) := by decide +kernel
theorem dX12_goneTo_65 : decode cX12_goneTo 65 = .ok (.iload 4, 2) := by decide +kernel
theorem dX12_goneTo_67 : decode cX12_goneTo 67 = .ok (.iadd, 1) := by decide +kernel
theorem dX12_goneTo_68 : decode cX12_goneTo 68 = .ok (.istore 6, 2) := by decide +kernel
theorem dX12_goneTo_70 : decode cX12_goneTo 70 = .ok (.aload_n 0, 1) := by decide +kernel
theorem dX12_goneTo_71 : decode cX12_goneTo 71 = .ok (.iload 5, 2) := by decide +kernel
theorem dX12_goneTo_73 : decode cX12_goneTo 73 = .ok (.iload 6, 2) := by decide +kernel
theorem dX12_goneTo_75 : decode cX12_goneTo 75 = .ok (.invokevirtual 242, 3) := by decide +kernel
theorem dX12_goneTo_78 : decode cX12_goneTo 78 = .ok (.ifCond .eq 14, 3) := by decide +kernel
theorem dX12_goneTo_81 : decode cX12_goneTo 81 = .ok (.bipush 16, 2) := by decide +kernel
theorem dX12_goneTo_83 : decode cX12_goneTo 83 = .ok (.iload 6, 2) := by decide +kernel
theorem dX12_goneTo_85 : decode cX12_goneTo 85 = .ok (.imul, 1) := by decide +kernel
theorem dX12_goneTo_86 : decode cX12_goneTo 86 = .ok (.iload 5, 2) := by decide +kernel
theorem dX12_goneTo_88 : decode cX12_goneTo 88 = .ok (.iadd, 1) := by decide +kernel
theorem dX12_goneTo_89 : decode cX12_goneTo 89 = .ok (.goto 4, 3) := by decide +kernel
theorem dX12_goneTo_92 : decode cX12_goneTo 92 = .ok (.iload_n 1, 1) := by decide +kernel
theorem dX12_goneTo_93 : decode cX12_goneTo 93 = .ok (.ireturn, 1) := by decide +kernel
theorem dX12_wayBy_0 : decode cX12_wayBy 0 = .ok (.aload_n 0, 1) := by decide +kernel
theorem dX12_wayBy_1 : decode cX12_wayBy 1 = .ok (.getfield 19, 3) := by decide +kernel
theorem dX12_wayBy_4 : decode cX12_wayBy 4 = .ok (.bipush 12, 2) := by decide +kernel
theorem dX12_wayBy_6 : decode cX12_wayBy 6 = .ok (.iconst 2, 1) := by decide +kernel
theorem dX12_wayBy_7 : decode cX12_wayBy 7 = .ok (.iload_n 1, 1) := by decide +kernel
theorem dX12_wayBy_8 : decode cX12_wayBy 8 = .ok (.imul, 1) := by decide +kernel
theorem dX12_wayBy_9 : decode cX12_wayBy 9 = .ok (.iadd, 1) := by decide +kernel
theorem dX12_wayBy_10 : decode cX12_wayBy 10 = .ok (.iaload, 1) := by decide +kernel
theorem dX12_wayBy_11 : decode cX12_wayBy 11 = .ok (.iload_n 2, 1) := by decide +kernel
theorem dX12_wayBy_12 : decode cX12_wayBy 12 = .ok (.iadd, 1) := by decide +kernel
theorem dX12_wayBy_13 : decode cX12_wayBy 13 = .ok (.bipush 8, 2) := by decide +kernel
theorem dX12_wayBy_15 : decode cX12_wayBy 15 = .ok (.irem, 1) := by decide +kernel
theorem dX12_wayBy_16 : decode cX12_wayBy 16 = .ok (.ireturn, 1) := by decide +kernel
theorem dX12_oddsOf_0 : decode cX12_oddsOf 0 = .ok (.aload_n 0, 1) := by decide +kernel
theorem dX12_oddsOf_1 : decode cX12_oddsOf 1 = .ok (.getfield 19, 3) := by decide +kernel
theorem dX12_oddsOf_4 : decode cX12_oddsOf 4 = .ok (.bipush 12, 2) := by decide +kernel
theorem dX12_oddsOf_6 : decode cX12_oddsOf 6 = .ok (.iconst 2, 1) := by decide +kernel
theorem dX12_oddsOf_7 : decode cX12_oddsOf 7 = .ok (.iload_n 1, 1) := by decide +kernel
theorem dX12_oddsOf_8 : decode cX12_oddsOf 8 = .ok (.imul, 1) := by decide +kernel
theorem dX12_oddsOf_9 : decode cX12_oddsOf 9 = .ok (.iadd, 1) := by decide +kernel
theorem dX12_oddsOf_10 : decode cX12_oddsOf 10 = .ok (.iconst 1, 1) := by decide +kernel
theorem dX12_oddsOf_11 : decode cX12_oddsOf 11 = .ok (.iadd, 1) := by decide +kernel
theorem dX12_oddsOf_12 : decode cX12_oddsOf 12 = .ok (.iaload, 1) := by decide +kernel
theorem dX12_oddsOf_13 : decode cX12_oddsOf 13 = .ok (.ireturn, 1) := by decide +kernel
theorem dX12_allOdds_0 : decode cX12_allOdds 0 = .ok (.iconst 0, 1) := by decide +kernel
theorem dX12_allOdds_1 : decode cX12_allOdds 1 = .ok (.istore_n 1, 1) := by decide +kernel
theorem dX12_allOdds_2 : decode cX12_allOdds 2 = .ok (.iconst 0, 1) := by decide +kernel
theorem dX12_allOdds_3 : decode cX12_allOdds 3 = .ok (.istore_n 2, 1) := by decide +kernel
theorem dX12_allOdds_4 : decode cX12_allOdds 4 = .ok (.iload_n 2, 1) := by decide +kernel
theorem dX12_allOdds_5 : decode cX12_allOdds 5 = .ok (.aload_n 0, 1) := by decide +kernel
theorem dX12_allOdds_6 : decode cX12_allOdds 6 = .ok (.getfield 19, 3) := by decide +kernel
theorem dX12_allOdds_9 : decode cX12_allOdds 9 = .ok (.iconst 0, 1) := by decide +kernel
theorem dX12_allOdds_10 : decode cX12_allOdds 10 = .ok (.iaload, 1) := by decide +kernel
theorem dX12_allOdds_11 : decode cX12_allOdds 11 = .ok (.if_icmp .ge 17, 3) := by decide +kernel
theorem dX12_allOdds_14 : decode cX12_allOdds 14 = .ok (.iload_n 1, 1) := by decide +kernel
theorem dX12_allOdds_15 : decode cX12_allOdds 15 = .ok (.aload_n 0, 1) := by decide +kernel
theorem dX12_allOdds_16 : decode cX12_allOdds 16 = .ok (.iload_n 2, 1) := by decide +kernel
theorem dX12_allOdds_17 : decode cX12_allOdds 17 = .ok (.invokevirtual 256, 3) := by decide +kernel
theorem dX12_allOdds_20 : decode cX12_allOdds 20 = .ok (.iadd, 1) := by decide +kernel
theorem dX12_allOdds_21 : decode cX12_allOdds 21 = .ok (.istore_n 1, 1) := by decide +kernel
theorem dX12_allOdds_22 : decode cX12_allOdds 22 = .ok (.iinc 2 1, 3) := by decide +kernel
theorem dX12_allOdds_25 : decode cX12_allOdds 25 = .ok (.goto (-21), 3) := by decide +kernel
theorem dX12_allOdds_28 : decode cX12_allOdds 28 = .ok (.iload_n 1, 1) := by decide +kernel
theorem dX12_allOdds_29 : decode cX12_allOdds 29 = .ok (.ireturn, 1) := by decide +kernel
theorem dX12_put_0 : decode cX12_put 0 = .ok (.aload_n 0, 1) := by decide +kernel
theorem dX12_put_1 : decode cX12_put 1 = .ok (.iconst 0, 1) := by decide +kernel
theorem dX12_put_2 : decode cX12_put 2 = .ok (.putfield 60, 3) := by decide +kernel
theorem dX12_put_5 : decode cX12_put 5 = .ok (.aload_n 0, 1) := by decide +kernel
theorem dX12_put_6 : decode cX12_put 6 = .ok (.getfield 238, 3) := by decide +kernel
theorem dX12_put_9 : decode cX12_put 9 = .ok (.ifCond .ne 7, 3) := by decide +kernel
theorem dX12_put_12 : decode cX12_put 12 = .ok (.ldc2_w 259, 3) := by decide +kernel
theorem dX12_put_15 : decode cX12_put 15 = .ok (.lreturn, 1) := by decide +kernel
theorem dX12_put_16 : decode cX12_put 16 = .ok (.aload_n 0, 1) := by decide +kernel
theorem dX12_put_17 : decode cX12_put 17 = .ok (.iload_n 1, 1) := by decide +kernel
theorem dX12_put_18 : decode cX12_put 18 = .ok (.iload_n 2, 1) := by decide +kernel
theorem dX12_put_19 : decode cX12_put 19 = .ok (.invokevirtual 261, 3) := by decide +kernel
theorem dX12_put_22 : decode cX12_put 22 = .ok (.ifCond .eq 22, 3) := by decide +kernel
theorem dX12_put_25 : decode cX12_put 25 = .ok (.iload_n 3, 1) := by decide +kernel
theorem dX12_put_26 : decode cX12_put 26 = .ok (.i2l, 1) := by decide +kernel
theorem dX12_put_27 : decode cX12_put 27 = .ok (.lconst 0, 1) := by decide +kernel
theorem dX12_put_28 : decode cX12_put 28 = .ok (.aload_n 0, 1) := by decide +kernel
theorem dX12_put_29 : decode cX12_put 29 = .ok (.getfield 19, 3) := by decide +kernel
theorem dX12_put_32 : decode cX12_put 32 = .ok (.bipush 11, 2) := by decide +kernel
theorem dX12_put_34 : decode cX12_put 34 = .ok (.iaload, 1) := by decide +kernel
theorem dX12_put_35 : decode cX12_put 35 = .ok (.iconst 1, 1) := by decide +kernel
theorem dX12_put_36 : decode cX12_put 36 = .ok (.isub, 1) := by decide +kernel
theorem dX12_put_37 : decode cX12_put 37 = .ok (.i2l, 1) := by decide +kernel
theorem dX12_put_38 : decode cX12_put 38 = .ok (.invokestatic 71, 3) := by decide +kernel
theorem dX12_put_41 : decode cX12_put 41 = .ok (.ifCond .ne 7, 3) := by decide +kernel
theorem dX12_put_44 : decode cX12_put 44 = .ok (.ldc2_w 81, 3) := by decide +kernel
theorem dX12_put_47 : decode cX12_put 47 = .ok (.lreturn, 1) := by decide +kernel
theorem dX12_put_48 : decode cX12_put 48 = .ok (.aload_n 0, 1) := by decide +kernel
theorem dX12_put_49 : decode cX12_put 49 = .ok (.getfield 25, 3) := by decide +kernel
theorem dX12_put_52 : decode cX12_put 52 = .ok (.iconst 0, 1) := by decide +kernel
theorem dX12_put_53 : decode cX12_put 53 = .ok (.iconst 1, 1) := by decide +kernel
theorem dX12_put_54 : decode cX12_put 54 = .ok (.iastore, 1) := by decide +kernel
theorem dX12_put_55 : decode cX12_put 55 = .ok (.aload_n 0, 1) := by decide +kernel
theorem dX12_put_56 : decode cX12_put 56 = .ok (.getfield 25, 3) := by decide +kernel
theorem dX12_put_59 : decode cX12_put 59 = .ok (.iconst 1, 1) := by decide +kernel
theorem dX12_put_60 : decode cX12_put 60 = .ok (.iload_n 1, 1) := by decide +kernel
theorem dX12_put_61 : decode cX12_put 61 = .ok (.iastore, 1) := by decide +kernel
theorem dX12_put_62 : decode cX12_put 62 = .ok (.aload_n 0, 1) := by decide +kernel
theorem dX12_put_63 : decode cX12_put 63 = .ok (.getfield 25, 3) := by decide +kernel
theorem dX12_put_66 : decode cX12_put 66 = .ok (.iconst 2, 1) := by decide +kernel
theorem dX12_put_67 : decode cX12_put 67 = .ok (.iload_n 2, 1) := by decide +kernel
theorem dX12_put_68 : decode cX12_put 68 = .ok (.iastore, 1) := by decide +kernel
theorem dX12_put_69 : decode cX12_put 69 = .ok (.aload_n 0, 1) := by decide +kernel
theorem dX12_put_70 : decode cX12_put 70 = .ok (.getfield 25, 3) := by decide +kernel
theorem dX12_put_73 : decode cX12_put 73 = .ok (.iconst 3, 1) := by decide +kernel
theorem dX12_put_74 : decode cX12_put 74 = .ok (.iload_n 3, 1) := by decide +kernel
theorem dX12_put_75 : decode cX12_put 75 = .ok (.iastore, 1) := by decide +kernel
theorem dX12_put_76 : decode cX12_put 76 = .ok (.aload_n 0, 1) := by decide +kernel
theorem dX12_put_77 : decode cX12_put 77 = .ok (.getfield 25, 3) := by decide +kernel
theorem dX12_put_80 : decode cX12_put 80 = .ok (.iconst 4, 1) := by decide +kernel
theorem dX12_put_81 : decode cX12_put 81 = .ok (.iconst 0, 1) := by decide +kernel
theorem dX12_put_82 : decode cX12_put 82 = .ok (.iastore, 1) := by decide +kernel
theorem dX12_put_83 : decode cX12_put 83 = .ok (.aload_n 0, 1) := by decide +kernel
theorem dX12_put_84 : decode cX12_put 84 = .ok (.getfield 25, 3) := by decide +kernel
theorem dX12_put_87 : decode cX12_put 87 = .ok (.iconst 5, 1) := by decide +kernel
theorem dX12_put_88 : decode cX12_put 88 = .ok (.iconst 0, 1) := by decide +kernel
theorem dX12_put_89 : decode cX12_put 89 = .ok (.iastore, 1) := by decide +kernel
theorem dX12_put_90 : decode cX12_put 90 = .ok (.aload_n 0, 1) := by decide +kernel
theorem dX12_put_91 : decode cX12_put 91 = .ok (.getfield 25, 3) := by decide +kernel
theorem dX12_put_94 : decode cX12_put 94 = .ok (.bipush 6, 2) := by decide +kernel
theorem dX12_put_96 : decode cX12_put 96 = .ok (.iconst 0, 1) := by decide +kernel
theorem dX12_put_97 : decode cX12_put 97 = .ok (.iastore, 1) := by decide +kernel
theorem dX12_put_98 : decode cX12_put 98 = .ok (.lconst 1, 1) := by decide +kernel
theorem dX12_put_99 : decode cX12_put 99 = .ok (.lreturn, 1) := by decide +kernel
theorem dX12_isHead_0 : decode cX12_isHead 0 = .ok (.iload_n 0, 1) := by decide +kernel
theorem dX12_isHead_1 : decode cX12_isHead 1 = .ok (.i2l, 1) := by decide +kernel
theorem dX12_isHead_2 : decode cX12_isHead 2 = .ok (.lconst 0, 1) := by decide +kernel
theorem dX12_isHead_3 : decode cX12_isHead 3 = .ok (.ldc2_w 69, 3) := by decide +kernel
theorem dX12_isHead_6 : decode cX12_isHead 6 = .ok (.invokestatic 71, 3) := by decide +kernel
theorem dX12_isHead_9 : decode cX12_isHead 9 = .ok (.ireturn, 1) := by decide +kernel
theorem dX12_head_0 : decode cX12_head 0 = .ok (.aload_n 0, 1) := by decide +kernel
theorem dX12_head_1 : decode cX12_head 1 = .ok (.iconst 0, 1) := by decide +kernel
theorem dX12_head_2 : decode cX12_head 2 = .ok (.putfield 60, 3) := by decide +kernel
theorem dX12_head_5 : decode cX12_head 5 = .ok (.aload_n 0, 1) := by decide +kernel
theorem dX12_head_6 : decode cX12_head 6 = .ok (.getfield 238, 3) := by decide +kernel
theorem dX12_head_9 : decode cX12_head 9 = .ok (.ifCond .ne 7, 3) := by decide +kernel
theorem dX12_head_12 : decode cX12_head 12 = .ok (.ldc2_w 259, 3) := by decide +kernel
theorem dX12_head_15 : decode cX12_head 15 = .ok (.lreturn, 1) := by decide +kernel
theorem dX12_head_16 : decode cX12_head 16 = .ok (.iload_n 1, 1) := by decide +kernel
theorem dX12_head_17 : decode cX12_head 17 = .ok (.invokestatic 264, 3) := by decide +kernel
theorem dX12_head_20 : decode cX12_head 20 = .ok (.ifCond .ne 7, 3) := by decide +kernel
theorem dX12_head_23 : decode cX12_head 23 = .ok (.ldc2_w 81, 3) := by decide +kernel
theorem dX12_head_26 : decode cX12_head 26 = .ok (.lreturn, 1) := by decide +kernel
theorem dX12_head_27 : decode cX12_head 27 = .ok (.aload_n 0, 1) := by decide +kernel
theorem dX12_head_28 : decode cX12_head 28 = .ok (.getfield 25, 3) := by decide +kernel
theorem dX12_head_31 : decode cX12_head 31 = .ok (.bipush 7, 2) := by decide +kernel
theorem dX12_head_33 : decode cX12_head 33 = .ok (.iaload, 1) := by decide +kernel
theorem dX12_head_34 : decode cX12_head 34 = .ok (.istore_n 2, 1) := by decide +kernel
theorem dX12_head_35 : decode cX12_head 35 = .ok (.aload_n 0, 1) := by decide +kernel
theorem dX12_head_36 : decode cX12_head 36 = .ok (.getfield 25, 3) := by decide +kernel
theorem dX12_head_39 : decode cX12_head 39 = .ok (.bipush 7, 2) := by decide +kernel
theorem dX12_head_41 : decode cX12_head 41 = .ok (.iload_n 1, 1) := by decide +kernel
theorem dX12_head_42 : decode cX12_head 42 = .ok (.iastore, 1) := by decide +kernel
theorem dX12_head_43 : decode cX12_head 43 = .ok (.iload_n 2, 1) := by decide +kernel
theorem dX12_head_44 : decode cX12_head 44 = .ok (.i2l, 1) := by decide +kernel
theorem dX12_head_45 : decode cX12_head 45 = .ok (.lreturn, 1) := by decide +kernel
theorem dX12_oneHour_0 : decode cX12_oneHour 0 = .ok (.aload_n 0, 1) := by decide +kernel
theorem dX12_oneHour_1 : decode cX12_oneHour 1 = .ok (.getfield 25, 3) := by decide +kernel
theorem dX12_oneHour_4 : decode cX12_oneHour 4 = .ok (.iconst 5, 1) := by decide +kernel
theorem dX12_oneHour_5 : decode cX12_oneHour 5 = .ok (.iaload, 1) := by decide +kernel
theorem dX12_oneHour_6 : decode cX12_oneHour 6 = .ok (.aload_n 0, 1) := by decide +kernel
theorem dX12_oneHour_7 : decode cX12_oneHour 7 = .ok (.getfield 25, 3) := by decide +kernel
theorem dX12_oneHour_10 : decode cX12_oneHour 10 = .ok (.bipush 6, 2) := by decide +kernel
theorem dX12_oneHour_12 : decode cX12_oneHour 12 = .ok (.iaload, 1) := by decide +kernel
theorem dX12_oneHour_13 : decode cX12_oneHour 13 = .ok (.iadd, 1) := by decide +kernel
theorem dX12_oneHour_14 : decode cX12_oneHour 14 = .ok (.ifCond .ne 75, 3) := by decide +kernel
theorem dX12_oneHour_17 : decode cX12_oneHour 17 = .ok (.aload_n 0, 1) := by decide +kernel
theorem dX12_oneHour_18 : decode cX12_oneHour 18 = .ok (.bipush 16, 2) := by decide +kernel
theorem dX12_oneHour_20 : decode cX12_oneHour 20 = .ok (.aload_n 0, 1) := by decide +kernel
theorem dX12_oneHour_21 : decode cX12_oneHour 21 = .ok (.getfield 25, 3) := by decide +kernel
theorem dX12_oneHour_24 : decode cX12_oneHour 24 = .ok (.iconst 2, 1) := by decide +kernel
theorem dX12_oneHour_25 : decode cX12_oneHour 25 = .ok (.iaload, 1) := by decide +kernel
theorem dX12_oneHour_26 : decode cX12_oneHour 26 = .ok (.imul, 1) := by decide +kernel
theorem dX12_oneHour_27 : decode cX12_oneHour 27 = .ok (.aload_n 0, 1) := by decide +kernel
theorem dX12_oneHour_28 : decode cX12_oneHour 28 = .ok (.getfield 25, 3) := by decide +kernel
theorem dX12_oneHour_31 : decode cX12_oneHour 31 = .ok (.iconst 1, 1) := by decide +kernel
theorem dX12_oneHour_32 : decode cX12_oneHour 32 = .ok (.iaload, 1) := by decide +kernel
theorem dX12_oneHour_33 : decode cX12_oneHour 33 = .ok (.iadd, 1) := by decide +kernel
theorem dX12_oneHour_34 : decode cX12_oneHour 34 = .ok (.aload_n 0, 1) := by decide +kernel
theorem dX12_oneHour_35 : decode cX12_oneHour 35 = .ok (.iload_n 1, 1) := by decide +kernel
theorem dX12_oneHour_36 : decode cX12_oneHour 36 = .ok (.aload_n 0, 1) := by decide +kernel
theorem dX12_oneHour_37 : decode cX12_oneHour 37 = .ok (.getfield 25, 3) := by decide +kernel
theorem dX12_oneHour_40 : decode cX12_oneHour 40 = .ok (.bipush 7, 2) := by decide +kernel
theorem dX12_oneHour_42 : decode cX12_oneHour 42 = .ok (.iaload, 1) := by decide +kernel
theorem dX12_oneHour_43 : decode cX12_oneHour 43 = .ok (.invokevirtual 267, 3) := by decide +kernel
theorem dX12_oneHour_46 : decode cX12_oneHour 46 = .ok (.invokevirtual 270, 3) := by decide +kernel
theorem dX12_oneHour_49 : decode cX12_oneHour 49 = .ok (.istore_n 3, 1) := by decide +kernel
theorem dX12_oneHour_50 : decode cX12_oneHour 50 = .ok (.aload_n 0, 1) := by decide +kernel
theorem dX12_oneHour_51 : decode cX12_oneHour 51 = .ok (.getfield 25, 3) := by decide +kernel
theorem dX12_oneHour_54 : decode cX12_oneHour 54 = .ok (.iconst 1, 1) := by decide +kernel
theorem dX12_oneHour_55 : decode cX12_oneHour 55 = .ok (.iload_n 3, 1) := by decide +kernel
theorem dX12_oneHour_56 : decode cX12_oneHour 56 = .ok (.bipush 16, 2) := by decide +kernel
theorem dX12_oneHour_58 : decode cX12_oneHour 58 = .ok (.irem, 1) := by decide +kernel
theorem dX12_oneHour_59 : decode cX12_oneHour 59 = .ok (.iastore, 1) := by decide +kernel
theorem dX12_oneHour_60 : decode cX12_oneHour 60 = .ok (.aload_n 0, 1) := by decide +kernel
theorem dX12_oneHour_61 : decode cX12_oneHour 61 = .ok (.getfield 25, 3) := by decide +kernel
theorem dX12_oneHour_64 : decode cX12_oneHour 64 = .ok (.iconst 2, 1) := by decide +kernel
theorem dX12_oneHour_65 : decode cX12_oneHour 65 = .ok (.iload_n 3, 1) := by decide +kernel
theorem dX12_oneHour_66 : decode cX12_oneHour 66 = .ok (.bipush 16, 2) := by decide +kernel
theorem dX12_oneHour_68 : decode cX12_oneHour 68 = .ok (.idiv, 1) := by decide +kernel
theorem dX12_oneHour_69 : decode cX12_oneHour 69 = .ok (.iastore, 1) := by decide +kernel
theorem dX12_oneHour_70 : decode cX12_oneHour 70 = .ok (.aload_n 0, 1) := by decide +kernel
theorem dX12_oneHour_71 : decode cX12_oneHour 71 = .ok (.getfield 25, 3) := by decide +kernel
theorem dX12_oneHour_74 : decode cX12_oneHour 74 = .ok (.iconst 5, 1) := by decide +kernel
theorem dX12_oneHour_75 : decode cX12_oneHour 75 = .ok (.aload_n 0, 1) := by decide +kernel
theorem dX12_oneHour_76 : decode cX12_oneHour 76 = .ok (.iload_n 3, 1) := by decide +kernel
theorem dX12_oneHour_77 : decode cX12_oneHour 77 = .ok (.invokevirtual 246, 3) := by decide +kernel
theorem dX12_oneHour_80 : decode cX12_oneHour 80 = .ok (.ifCond .eq 7, 3) := by decide +kernel
theorem dX12_oneHour_83 : decode cX12_oneHour 83 = .ok (.iconst 1, 1) := by decide +kernel
theorem dX12_oneHour_84 : decode cX12_oneHour 84 = .ok (.goto 4, 3) := by decide +kernel
theorem dX12_oneHour_87 : decode cX12_oneHour 87 = .ok (.iconst 0, 1) := by decide +kernel
theorem dX12_oneHour_88 : decode cX12_oneHour 88 = .ok (.iastore, 1) := by decide +kernel
theorem dX12_oneHour_89 : decode cX12_oneHour 89 = .ok (.aload_n 0, 1) := by decide +kernel
theorem dX12_oneHour_90 : decode cX12_oneHour 90 = .ok (.getfield 25, 3) := by decide +kernel
theorem dX12_oneHour_93 : decode cX12_oneHour 93 = .ok (.bipush 6, 2) := by decide +kernel
theorem dX12_oneHour_95 : decode cX12_oneHour 95 = .ok (.iaload, 1) := by decide +kernel
theorem dX12_oneHour_96 : decode cX12_oneHour 96 = .ok (.ifCond .ne 98, 3) := by decide +kernel
theorem dX12_oneHour_99 : decode cX12_oneHour 99 = .ok (.aload_n 0, 1) := by decide +kernel
theorem dX12_oneHour_100 : decode cX12_oneHour 100 = .ok (.getfield 25, 3) := by decide +kernel
theorem dX12_oneHour_103 : decode cX12_oneHour 103 = .ok (.iconst 3, 1) := by decide +kernel
theorem dX12_oneHour_104 : decode cX12_oneHour 104 = .ok (.iaload, 1) := by decide +kernel
theorem dX12_oneHour_105 : decode cX12_oneHour 105 = .ok (.aload_n 0, 1) := by decide +kernel
theorem dX12_oneHour_106 : decode cX12_oneHour 106 = .ok (.getfield 19, 3) := by decide +kernel
theorem dX12_oneHour_109 : decode cX12_oneHour 109 = .ok (.bipush 9, 2) := by decide +kernel
theorem dX12_oneHour_111 : decode cX12_oneHour 111 = .ok (.iaload, 1) := by decide +kernel
theorem dX12_oneHour_112 : decode cX12_oneHour 112 = .ok (.iadd, 1) := by decide +kernel
theorem dX12_oneHour_113 : decode cX12_oneHour 113 = .ok (.iload_n 2, 1) := by decide +kernel
theorem dX12_oneHour_114 : decode cX12_oneHour 114 = .ok (.ifCond .eq 13, 3) := by decide +kernel
theorem dX12_oneHour_117 : decode cX12_oneHour 117 = .ok (.aload_n 0, 1) := by decide +kernel
theorem dX12_oneHour_118 : decode cX12_oneHour 118 = .ok (.getfield 19, 3) := by decide +kernel
theorem dX12_oneHour_121 : decode cX12_oneHour 121 = .ok (.bipush 10, 2) := by decide +kernel
theorem dX12_oneHour_123 : decode cX12_oneHour 123 = .ok (.iaload, 1) := by decide +kernel
theorem dX12_oneHour_124 : decode cX12_oneHour 124 = .ok (.goto 4, 3) := by decide +kernel
theorem dX12_oneHour_127 : decode cX12_oneHour 127 = .ok (.iconst 0, 1) := by decide +kernel
theorem dX12_oneHour_128 : decode cX12_oneHour 128 = .ok (.isub, 1) := by decide +kernel
theorem dX12_oneHour_129 : decode cX12_oneHour 129 = .ok (.istore_n 3, 1) := by decide +kernel
theorem dX12_oneHour_130 : decode cX12_oneHour 130 = .ok (.aload_n 0, 1) := by decide +kernel
theorem dX12_oneHour_131 : decode cX12_oneHour 131 = .ok (.getfield 25, 3) := by decide +kernel
theorem dX12_oneHour_134 : decode cX12_oneHour 134 = .ok (.iconst 3, 1) := by decide +kernel
theorem dX12_oneHour_135 : decode cX12_oneHour 135 = .ok (.iload_n 3, 1) := by decide +kernel
theorem dX12_oneHour_136 : decode cX12_oneHour 136 = .ok (.ifCond .ge 7, 3) := by decide +kernel
theorem dX12_oneHour_139 : decode cX12_oneHour 139 = .ok (.iconst 0, 1) := by decide +kernel
theorem dX12_oneHour_140 : decode cX12_oneHour 140 = .ok (.goto 25, 3) := by decide +kernel
theorem dX12_oneHour_143 : decode cX12_oneHour 143 = .ok (.iload_n 3, 1) := by decide +kernel
theorem dX12_oneHour_144 : decode cX12_oneHour 144 = .ok (.aload_n 0, 1) := by decide +kernel
theorem dX12_oneHour_145 : decode cX12_oneHour 145 = .ok (.getfield 19, 3) := by decide +kernel
theorem dX12_oneHour_148 : decode cX12_oneHour 148 = .ok (.bipush 11, 2) := by decide +kernel
theorem dX12_oneHour_150 : decode cX12_oneHour 150 = .ok (.iaload, 1) := by decide +kernel
theorem dX12_oneHour_151 : decode cX12_oneHour 151 = .ok (.if_icmp .le 13, 3) := by decide +kernel
theorem dX12_oneHour_154 : decode cX12_oneHour 154 = .ok (.aload_n 0, 1) := by decide +kernel
theorem dX12_oneHour_155 : decode cX12_oneHour 155 = .ok (.getfield 19, 3) := by decide +kernel
theorem dX12_oneHour_158 : decode cX12_oneHour 158 = .ok (.bipush 11, 2) := by decide +kernel
theorem dX12_oneHour_160 : decode cX12_oneHour 160 = .ok (.iaload, 1) := by decide +kernel
theorem dX12_oneHour_161 : decode cX12_oneHour 161 = .ok (.goto 4, 3) := by decide +kernel
theorem dX12_oneHour_164 : decode cX12_oneHour 164 = .ok (.iload_n 3, 1) := by decide +kernel
theorem dX12_oneHour_165 : decode cX12_oneHour 165 = .ok (.iastore, 1) := by decide +kernel
theorem dX12_oneHour_166 : decode cX12_oneHour 166 = .ok (.aload_n 0, 1) := by decide +kernel
theorem dX12_oneHour_167 : decode cX12_oneHour 167 = .ok (.getfield 25, 3) := by decide +kernel
theorem dX12_oneHour_170 : decode cX12_oneHour 170 = .ok (.bipush 6, 2) := by decide +kernel
theorem dX12_oneHour_172 : decode cX12_oneHour 172 = .ok (.aload_n 0, 1) := by decide +kernel
theorem dX12_oneHour_173 : decode cX12_oneHour 173 = .ok (.getfield 25, 3) := by decide +kernel
theorem dX12_oneHour_176 : decode cX12_oneHour 176 = .ok (.iconst 3, 1) := by decide +kernel
theorem dX12_oneHour_177 : decode cX12_oneHour 177 = .ok (.iaload, 1) := by decide +kernel
theorem dX12_oneHour_178 : decode cX12_oneHour 178 = .ok (.aload_n 0, 1) := by decide +kernel
theorem dX12_oneHour_179 : decode cX12_oneHour 179 = .ok (.getfield 19, 3) := by decide +kernel
theorem dX12_oneHour_182 : decode cX12_oneHour 182 = .ok (.bipush 11, 2) := by decide +kernel
theorem dX12_oneHour_184 : decode cX12_oneHour 184 = .ok (.iaload, 1) := by decide +kernel
theorem dX12_oneHour_185 : decode cX12_oneHour 185 = .ok (.if_icmp .ne 7, 3) := by decide +kernel
theorem dX12_oneHour_188 : decode cX12_oneHour 188 = .ok (.iconst 1, 1) := by decide +kernel
theorem dX12_oneHour_189 : decode cX12_oneHour 189 = .ok (.goto 4, 3) := by decide +kernel
theorem dX12_oneHour_192 : decode cX12_oneHour 192 = .ok (.iconst 0, 1) := by decide +kernel
theorem dX12_oneHour_193 : decode cX12_oneHour 193 = .ok (.iastore, 1) := by decide +kernel
theorem dX12_oneHour_194 : decode cX12_oneHour 194 = .ok (.aload_n 0, 1) := by decide +kernel
theorem dX12_oneHour_195 : decode cX12_oneHour 195 = .ok (.getfield 25, 3) := by decide +kernel
theorem dX12_oneHour_198 : decode cX12_oneHour 198 = .ok (.iconst 4, 1) := by decide +kernel
theorem dX12_oneHour_199 : decode cX12_oneHour 199 = .ok (.dup2, 1) := by decide +kernel
theorem dX12_oneHour_200 : decode cX12_oneHour 200 = .ok (.iaload, 1) := by decide +kernel
theorem dX12_oneHour_201 : decode cX12_oneHour 201 = .ok (.iconst 1, 1) := by decide +kernel
theorem dX12_oneHour_202 : decode cX12_oneHour 202 = .ok (.iadd, 1) := by decide +kernel
theorem dX12_oneHour_203 : decode cX12_oneHour 203 = .ok (.iastore, 1) := by decide +kernel
theorem dX12_oneHour_204 : decode cX12_oneHour 204 = .ok (.return_, 1) := by decide +kernel
theorem dX12_windBy_0 : decode cX12_windBy 0 = .ok (.iconst 0, 1) := by decide +kernel
theorem dX12_windBy_1 : decode cX12_windBy 1 = .ok (.istore_n 3, 1) := by decide +kernel
theorem dX12_windBy_2 : decode cX12_windBy 2 = .ok (.aload_n 0, 1) := by decide +kernel
theorem dX12_windBy_3 : decode cX12_windBy 3 = .ok (.iconst 0, 1) := by decide +kernel
theorem dX12_windBy_4 : decode cX12_windBy 4 = .ok (.invokevirtual 256, 3) := by decide +kernel
theorem dX12_windBy_7 : decode cX12_windBy 7 = .ok (.i2l, 1) := by decide +kernel
theorem dX12_windBy_8 : decode cX12_windBy 8 = .ok (.lstore 4, 2) := by decide +kernel
theorem dX12_windBy_10 : decode cX12_windBy 10 = .ok (.lload 4, 2) := by decide +kernel
theorem dX12_windBy_12 : decode cX12_windBy 12 = .ok (.lload_n 1, 1) := by decide +kernel
theorem dX12_windBy_13 : decode cX12_windBy 13 = .ok (.lcmp, 1) := by decide +kernel
theorem dX12_windBy_14 : decode cX12_windBy 14 = .ok (.ifCond .gt 20, 3) := by decide +kernel
theorem dX12_windBy_17 : decode cX12_windBy 17 = .ok (.iinc 3 1, 3) := by decide +kernel
theorem dX12_windBy_20 : decode cX12_windBy 20 = .ok (.lload 4, 2) := by decide +kernel
theorem dX12_windBy_22 : decode cX12_windBy 22 = .ok (.aload_n 0, 1) := by decide +kernel
theorem dX12_windBy_23 : decode cX12_windBy 23 = .ok (.iload_n 3, 1) := by decide +kernel
theorem dX12_windBy_24 : decode cX12_windBy 24 = .ok (.invokevirtual 256, 3) := by decide +kernel
theorem dX12_windBy_27 : decode cX12_windBy 27 = .ok (.i2l, 1) := by decide +kernel
theorem dX12_windBy_28 : decode cX12_windBy 28 = .ok (.ladd, 1) := by decide +kernel
theorem dX12_windBy_29 : decode cX12_windBy 29 = .ok (.lstore 4, 2) := by decide +kernel
theorem dX12_windBy_31 : decode cX12_windBy 31 = .ok (.goto (-21), 3) := by decide +kernel
theorem dX12_windBy_34 : decode cX12_windBy 34 = .ok (.iload_n 3, 1) := by decide +kernel
theorem dX12_windBy_35 : decode cX12_windBy 35 = .ok (.ireturn, 1) := by decide +kernel
theorem dX12_sailed_0 : decode cX12_sailed 0 = .ok (.aload_n 0, 1) := by decide +kernel
theorem dX12_sailed_1 : decode cX12_sailed 1 = .ok (.iconst 0, 1) := by decide +kernel
theorem dX12_sailed_2 : decode cX12_sailed 2 = .ok (.putfield 60, 3) := by decide +kernel
theorem dX12_sailed_5 : decode cX12_sailed 5 = .ok (.aload_n 0, 1) := by decide +kernel
theorem dX12_sailed_6 : decode cX12_sailed 6 = .ok (.getfield 25, 3) := by decide +kernel
theorem dX12_sailed_9 : decode cX12_sailed 9 = .ok (.iconst 0, 1) := by decide +kernel
theorem dX12_sailed_10 : decode cX12_sailed 10 = .ok (.iaload, 1) := by decide +kernel
theorem dX12_sailed_11 : decode cX12_sailed 11 = .ok (.ifCond .ne 7, 3) := by decide +kernel
theorem dX12_sailed_14 : decode cX12_sailed 14 = .ok (.ldc2_w 259, 3) := by decide +kernel
theorem dX12_sailed_17 : decode cX12_sailed 17 = .ok (.lreturn, 1) := by decide +kernel
theorem dX12_sailed_18 : decode cX12_sailed 18 = .ok (.iload_n 1, 1) := by decide +kernel
theorem dX12_sailed_19 : decode cX12_sailed 19 = .ok (.i2l, 1) := by decide +kernel
theorem dX12_sailed_20 : decode cX12_sailed 20 = .ok (.lconst 1, 1) := by decide +kernel
theorem dX12_sailed_21 : decode cX12_sailed 21 = .ok (.ldc2_w 273, 3) := by decide +kernel
theorem dX12_sailed_24 : decode cX12_sailed 24 = .ok (.invokestatic 71, 3) := by decide +kernel
theorem dX12_sailed_27 : decode cX12_sailed 27 = .ok (.ifCond .eq 25, 3) := by decide +kernel
theorem dX12_sailed_30 : decode cX12_sailed 30 = .ok (.iload_n 2, 1) := by decide +kernel
theorem dX12_sailed_31 : decode cX12_sailed 31 = .ok (.i2l, 1) := by decide +kernel
theorem dX12_sailed_32 : decode cX12_sailed 32 = .ok (.lconst 0, 1) := by decide +kernel
theorem dX12_sailed_33 : decode cX12_sailed 33 = .ok (.lconst 1, 1) := by decide +kernel
theorem dX12_sailed_34 : decode cX12_sailed 34 = .ok (.invokestatic 71, 3) := by decide +kernel
theorem dX12_sailed_37 : decode cX12_sailed 37 = .ok (.ifCond .eq 15, 3) := by decide +kernel
theorem dX12_sailed_40 : decode cX12_sailed 40 = .ok (.iload_n 3, 1) := by decide +kernel
theorem dX12_sailed_41 : decode cX12_sailed 41 = .ok (.i2l, 1) := by decide +kernel
theorem dX12_sailed_42 : decode cX12_sailed 42 = .ok (.lconst 1, 1) := by decide +kernel
theorem dX12_sailed_43 : decode cX12_sailed 43 = .ok (.ldc2_w 275, 3) := by decide +kernel
theorem dX12_sailed_46 : decode cX12_sailed 46 = .ok (.invokestatic 71, 3) := by decide +kernel
theorem dX12_sailed_49 : decode cX12_sailed 49 = .ok (.ifCond .ne 7, 3) := by decide +kernel
theorem dX12_sailed_52 : decode cX12_sailed 52 = .ok (.ldc2_w 81, 3) := by decide +kernel
theorem dX12_sailed_55 : decode cX12_sailed 55 = .ok (.lreturn, 1) := by decide +kernel
theorem dX12_sailed_56 : decode cX12_sailed 56 = .ok (.iload_n 3, 1) := by decide +kernel
theorem dX12_sailed_57 : decode cX12_sailed 57 = .ok (.i2l, 1) := by decide +kernel
theorem dX12_sailed_58 : decode cX12_sailed 58 = .ok (.lstore 4, 2) := by decide +kernel
theorem dX12_sailed_60 : decode cX12_sailed 60 = .ok (.iconst 0, 1) := by decide +kernel
theorem dX12_sailed_61 : decode cX12_sailed 61 = .ok (.istore 6, 2) := by decide +kernel
theorem dX12_sailed_63 : decode cX12_sailed 63 = .ok (.iload 6, 2) := by decide +kernel
theorem dX12_sailed_65 : decode cX12_sailed 65 = .ok (.iload_n 1, 1) := by decide +kernel
theorem dX12_sailed_66 : decode cX12_sailed 66 = .ok (.if_icmp .ge 47, 3) := by decide +kernel
theorem dX12_sailed_69 : decode cX12_sailed 69 = .ok (.lload 4, 2) := by decide +kernel
theorem dX12_sailed_71 : decode cX12_sailed 71 = .ok (.ldc2_w 277, 3) := by decide +kernel
theorem dX12_sailed_74 : decode cX12_sailed 74 = .ok (.lmul, 1) := by decide +kernel
theorem dX12_sailed_75 : decode cX12_sailed 75 = .ok (.ldc2_w 279, 3) := by decide +kernel
theorem dX12_sailed_78 : decode cX12_sailed 78 = .ok (.lrem, 1) := by decide +kernel
theorem dX12_sailed_79 : decode cX12_sailed 79 = .ok (.lstore 4, 2) := by decide +kernel
theorem dX12_sailed_81 : decode cX12_sailed 81 = .ok (.aload_n 0, 1) := by decide +kernel
theorem dX12_sailed_82 : decode cX12_sailed 82 = .ok (.aload_n 0, 1) := by decide +kernel
theorem dX12_sailed_83 : decode cX12_sailed 83 = .ok (.lload 4, 2) := by decide +kernel
theorem dX12_sailed_85 : decode cX12_sailed 85 = .ok (.aload_n 0, 1) := by decide +kernel
theorem dX12_sailed_86 : decode cX12_sailed 86 = .ok (.invokevirtual 281, 3) := by decide +kernel
theorem dX12_sailed_89 : decode cX12_sailed 89 = .ok (.i2l, 1) := by decide +kernel
theorem dX12_sailed_90 : decode cX12_sailed 90 = .ok (.lrem, 1) := by decide +kernel
theorem dX12_sailed_91 : decode cX12_sailed 91 = .ok (.invokevirtual 285, 3) := by decide +kernel
theorem dX12_sailed_94 : decode cX12_sailed 94 = .ok (.iload_n 2, 1) := by decide +kernel
theorem dX12_sailed_95 : decode cX12_sailed 95 = .ok (.iconst 1, 1) := by decide +kernel
theorem dX12_sailed_96 : decode cX12_sailed 96 = .ok (.if_icmp .ne 7, 3) := by decide +kernel
theorem dX12_sailed_99 : decode cX12_sailed 99 = .ok (.iconst 1, 1) := by decide +kernel
theorem dX12_sailed_100 : decode cX12_sailed 100 = .ok (.goto 4, 3) := by decide +kernel
theorem dX12_sailed_103 : decode cX12_sailed 103 = .ok (.iconst 0, 1) := by decide +kernel
theorem dX12_sailed_104 : decode cX12_sailed 104 = .ok (.invokevirtual 288, 3) := by decide +kernel
theorem dX12_sailed_107 : decode cX12_sailed 107 = .ok (.iinc 6 1, 3) := by decide +kernel
theorem dX12_sailed_110 : decode cX12_sailed 110 = .ok (.goto (-47), 3) := by decide +kernel
theorem dX12_sailed_113 : decode cX12_sailed 113 = .ok (.aload_n 0, 1) := by decide +kernel
theorem dX12_sailed_114 : decode cX12_sailed 114 = .ok (.getfield 25, 3) := by decide +kernel
theorem dX12_sailed_117 : decode cX12_sailed 117 = .ok (.iconst 4, 1) := by decide +kernel
theorem dX12_sailed_118 : decode cX12_sailed 118 = .ok (.iaload, 1) := by decide +kernel
theorem dX12_sailed_119 : decode cX12_sailed 119 = .ok (.i2l, 1) := by decide +kernel
theorem dX12_sailed_120 : decode cX12_sailed 120 = .ok (.lreturn, 1) := by decide +kernel
theorem dX12_blown_0 : decode cX12_blown 0 = .ok (.aload_n 0, 1) := by decide +kernel
theorem dX12_blown_1 : decode cX12_blown 1 = .ok (.iconst 0, 1) := by decide +kernel
theorem dX12_blown_2 : decode cX12_blown 2 = .ok (.putfield 60, 3) := by decide +kernel
theorem dX12_blown_5 : decode cX12_blown 5 = .ok (.aload_n 0, 1) := by decide +kernel
theorem dX12_blown_6 : decode cX12_blown 6 = .ok (.getfield 25, 3) := by decide +kernel
theorem dX12_blown_9 : decode cX12_blown 9 = .ok (.iconst 0, 1) := by decide +kernel
theorem dX12_blown_10 : decode cX12_blown 10 = .ok (.iaload, 1) := by decide +kernel
theorem dX12_blown_11 : decode cX12_blown 11 = .ok (.ifCond .ne 7, 3) := by decide +kernel
theorem dX12_blown_14 : decode cX12_blown 14 = .ok (.ldc2_w 259, 3) := by decide +kernel
theorem dX12_blown_17 : decode cX12_blown 17 = .ok (.lreturn, 1) := by decide +kernel
theorem dX12_blown_18 : decode cX12_blown 18 = .ok (.iload_n 1, 1) := by decide +kernel
theorem dX12_blown_19 : decode cX12_blown 19 = .ok (.invokestatic 75, 3) := by decide +kernel
theorem dX12_blown_22 : decode cX12_blown 22 = .ok (.ifCond .eq 15, 3) := by decide +kernel
theorem dX12_blown_25 : decode cX12_blown 25 = .ok (.iload_n 3, 1) := by decide +kernel
theorem dX12_blown_26 : decode cX12_blown 26 = .ok (.i2l, 1) := by decide +kernel
theorem dX12_blown_27 : decode cX12_blown 27 = .ok (.lconst 1, 1) := by decide +kernel
theorem dX12_blown_28 : decode cX12_blown 28 = .ok (.ldc2_w 292, 3) := by decide +kernel
theorem dX12_blown_31 : decode cX12_blown 31 = .ok (.invokestatic 71, 3) := by decide +kernel
theorem dX12_blown_34 : decode cX12_blown 34 = .ok (.ifCond .ne 7, 3) := by decide +kernel
theorem dX12_blown_37 : decode cX12_blown 37 = .ok (.ldc2_w 81, 3) := by decide +kernel
theorem dX12_blown_40 : decode cX12_blown 40 = .ok (.lreturn, 1) := by decide +kernel
theorem dX12_blown_41 : decode cX12_blown 41 = .ok (.aload_n 0, 1) := by decide +kernel
theorem dX12_blown_42 : decode cX12_blown 42 = .ok (.getfield 9, 3) := by decide +kernel
theorem dX12_blown_45 : decode cX12_blown 45 = .ok (.iload_n 1, 1) := by decide +kernel
theorem dX12_blown_46 : decode cX12_blown 46 = .ok (.iaload, 1) := by decide +kernel
theorem dX12_blown_47 : decode cX12_blown 47 = .ok (.ifCond .ge 9, 3) := by decide +kernel
theorem dX12_blown_50 : decode cX12_blown 50 = .ok (.aload_n 0, 1) := by decide +kernel
theorem dX12_blown_51 : decode cX12_blown 51 = .ok (.iconst 1, 1) := by decide +kernel
theorem dX12_blown_52 : decode cX12_blown 52 = .ok (.invokevirtual 83, 3) := by decide +kernel
theorem dX12_blown_55 : decode cX12_blown 55 = .ok (.lreturn, 1) := by decide +kernel
theorem dX12_blown_56 : decode cX12_blown 56 = .ok (.iload_n 2, 1) := by decide +kernel
theorem dX12_blown_57 : decode cX12_blown 57 = .ok (.ifCond .lt 19, 3) := by decide +kernel
theorem dX12_blown_60 : decode cX12_blown 60 = .ok (.iload_n 2, 1) := by decide +kernel
theorem dX12_blown_61 : decode cX12_blown 61 = .ok (.i2l, 1) := by decide +kernel
theorem dX12_blown_62 : decode cX12_blown 62 = .ok (.iload_n 3, 1) := by decide +kernel
theorem dX12_blown_63 : decode cX12_blown 63 = .ok (.i2l, 1) := by decide +kernel
theorem dX12_blown_64 : decode cX12_blown 64 = .ok (.ladd, 1) := by decide +kernel
theorem dX12_blown_65 : decode cX12_blown 65 = .ok (.aload_n 0, 1) := by decide +kernel
theorem dX12_blown_66 : decode cX12_blown 66 = .ok (.getfield 13, 3) := by decide +kernel
theorem dX12_blown_69 : decode cX12_blown 69 = .ok (.iload_n 1, 1) := by decide +kernel
theorem dX12_blown_70 : decode cX12_blown 70 = .ok (.iaload, 1) := by decide +kernel
theorem dX12_blown_71 : decode cX12_blown 71 = .ok (.i2l, 1) := by decide +kernel
theorem dX12_blown_72 : decode cX12_blown 72 = .ok (.lcmp, 1) := by decide +kernel
theorem dX12_blown_73 : decode cX12_blown 73 = .ok (.ifCond .le 9, 3) := by decide +kernel
theorem dX12_blown_76 : decode cX12_blown 76 = .ok (.aload_n 0, 1) := by decide +kernel
theorem dX12_blown_77 : decode cX12_blown 77 = .ok (.iconst 2, 1) := by decide +kernel
theorem dX12_blown_78 : decode cX12_blown 78 = .ok (.invokevirtual 83, 3) := by decide +kernel
theorem dX12_blown_81 : decode cX12_blown 81 = .ok (.lreturn, 1) := by decide +kernel
theorem dX12_blown_82 : decode cX12_blown 82 = .ok (.iconst 0, 1) := by decide +kernel
theorem dX12_blown_83 : decode cX12_blown 83 = .ok (.istore 4, 2) := by decide +kernel
theorem dX12_blown_85 : decode cX12_blown 85 = .ok (.iload 4, 2) := by decide +kernel
theorem dX12_blown_87 : decode cX12_blown 87 = .ok (.iload_n 3, 1) := by decide +kernel
theorem dX12_blown_88 : decode cX12_blown 88 = .ok (.if_icmp .ge 44, 3) := by decide +kernel
theorem dX12_blown_91 : decode cX12_blown 91 = .ok (.aload_n 0, 1) := by decide +kernel
theorem dX12_blown_92 : decode cX12_blown 92 = .ok (.getfield 16, 3) := by decide +kernel
theorem dX12_blown_95 : decode cX12_blown 95 = .ok (.bipush 40, 2) := by decide +kernel
theorem dX12_blown_97 : decode cX12_blown 97 = .ok (.iload_n 1, 1) := by decide +kernel
theorem dX12_blown_98 : decode cX12_blown 98 = .ok (.imul, 1) := by decide +kernel
theorem dX12_blown_99 : decode cX12_blown 99 = .ok (.iload_n 2, 1) := by decide +kernel
theorem dX12_blown_100 : decode cX12_blown 100 = .ok (.iadd, 1) := by decide +kernel
theorem dX12_blown_101 : decode cX12_blown 101 = .ok (.iload 4, 2) := by decide +kernel
theorem dX12_blown_103 : decode cX12_blown 103 = .ok (.iadd, 1) := by decide +kernel
theorem dX12_blown_104 : decode cX12_blown 104 = .ok (.iaload, 1) := by decide +kernel
theorem dX12_blown_105 : decode cX12_blown 105 = .ok (.i2l, 1) := by decide +kernel
theorem dX12_blown_106 : decode cX12_blown 106 = .ok (.lconst 0, 1) := by decide +kernel
theorem dX12_blown_107 : decode cX12_blown 107 = .ok (.aload_n 0, 1) := by decide +kernel
theorem dX12_blown_108 : decode cX12_blown 108 = .ok (.getfield 19, 3) := by decide +kernel
theorem dX12_blown_111 : decode cX12_blown 111 = .ok (.iconst 0, 1) := by decide +kernel
theorem dX12_blown_112 : decode cX12_blown 112 = .ok (.iaload, 1) := by decide +kernel
theorem dX12_blown_113 : decode cX12_blown 113 = .ok (.iconst 1, 1) := by decide +kernel
theorem dX12_blown_114 : decode cX12_blown 114 = .ok (.isub, 1) := by decide +kernel
theorem dX12_blown_115 : decode cX12_blown 115 = .ok (.i2l, 1) := by decide +kernel
theorem dX12_blown_116 : decode cX12_blown 116 = .ok (.invokestatic 71, 3) := by decide +kernel
theorem dX12_blown_119 : decode cX12_blown 119 = .ok (.ifCond .ne 7, 3) := by decide +kernel
theorem dX12_blown_122 : decode cX12_blown 122 = .ok (.ldc2_w 81, 3) := by decide +kernel
theorem dX12_blown_125 : decode cX12_blown 125 = .ok (.lreturn, 1) := by decide +kernel
theorem dX12_blown_126 : decode cX12_blown 126 = .ok (.iinc 4 1, 3) := by decide +kernel
theorem dX12_blown_129 : decode cX12_blown 129 = .ok (.goto (-44), 3) := by decide +kernel
theorem dX12_blown_132 : decode cX12_blown 132 = .ok (.aload_n 0, 1) := by decide +kernel
theorem dX12_blown_133 : decode cX12_blown 133 = .ok (.iconst 0, 1) := by decide +kernel
theorem dX12_blown_134 : decode cX12_blown 134 = .ok (.putfield 64, 3) := by decide +kernel
theorem dX12_blown_137 : decode cX12_blown 137 = .ok (.iconst 0, 1) := by decide +kernel
theorem dX12_blown_138 : decode cX12_blown 138 = .ok (.istore 4, 2) := by decide +kernel
theorem dX12_blown_140 : decode cX12_blown 140 = .ok (.iload 4, 2) := by decide +kernel
theorem dX12_blown_142 : decode cX12_blown 142 = .ok (.iload_n 3, 1) := by decide +kernel
theorem dX12_blown_143 : decode cX12_blown 143 = .ok (.if_icmp .ge 28, 3) := by decide +kernel
theorem dX12_blown_146 : decode cX12_blown 146 = .ok (.aload_n 0, 1) := by decide +kernel
theorem dX12_blown_147 : decode cX12_blown 147 = .ok (.aload_n 0, 1) := by decide +kernel
theorem dX12_blown_148 : decode cX12_blown 148 = .ok (.getfield 16, 3) := by decide +kernel
theorem dX12_blown_151 : decode cX12_blown 151 = .ok (.bipush 40, 2) := by decide +kernel
theorem dX12_blown_153 : decode cX12_blown 153 = .ok (.iload_n 1, 1) := by decide +kernel
theorem dX12_blown_154 : decode cX12_blown 154 = .ok (.imul, 1) := by decide +kernel
theorem dX12_blown_155 : decode cX12_blown 155 = .ok (.iload_n 2, 1) := by decide +kernel
theorem dX12_blown_156 : decode cX12_blown 156 = .ok (.iadd, 1) := by decide +kernel
theorem dX12_blown_157 : decode cX12_blown 157 = .ok (.iload 4, 2) := by decide +kernel
theorem dX12_blown_159 : decode cX12_blown 159 = .ok (.iadd, 1) := by decide +kernel
theorem dX12_blown_160 : decode cX12_blown 160 = .ok (.iaload, 1) := by decide +kernel
theorem dX12_blown_161 : decode cX12_blown 161 = .ok (.iconst 0, 1) := by decide +kernel
theorem dX12_blown_162 : decode cX12_blown 162 = .ok (.invokevirtual 288, 3) := by decide +kernel
theorem dX12_blown_165 : decode cX12_blown 165 = .ok (.iinc 4 1, 3) := by decide +kernel
theorem dX12_blown_168 : decode cX12_blown 168 = .ok (.goto (-28), 3) := by decide +kernel
theorem dX12_blown_171 : decode cX12_blown 171 = .ok (.aload_n 0, 1) := by decide +kernel
theorem dX12_blown_172 : decode cX12_blown 172 = .ok (.getfield 25, 3) := by decide +kernel
theorem dX12_blown_175 : decode cX12_blown 175 = .ok (.iconst 4, 1) := by decide +kernel
theorem dX12_blown_176 : decode cX12_blown 176 = .ok (.iaload, 1) := by decide +kernel
theorem dX12_blown_177 : decode cX12_blown 177 = .ok (.i2l, 1) := by decide +kernel
theorem dX12_blown_178 : decode cX12_blown 178 = .ok (.lreturn, 1) := by decide +kernel
theorem dX12_ship_0 : decode cX12_ship 0 = .ok (.aload_n 0, 1) := by decide +kernel
theorem dX12_ship_1 : decode cX12_ship 1 = .ok (.iconst 0, 1) := by decide +kernel
theorem dX12_ship_2 : decode cX12_ship 2 = .ok (.putfield 60, 3) := by decide +kernel
theorem dX12_ship_5 : decode cX12_ship 5 = .ok (.aload_n 0, 1) := by decide +kernel
theorem dX12_ship_6 : decode cX12_ship 6 = .ok (.getfield 25, 3) := by decide +kernel
theorem dX12_ship_9 : decode cX12_ship 9 = .ok (.iconst 0, 1) := by decide +kernel
theorem dX12_ship_10 : decode cX12_ship 10 = .ok (.iaload, 1) := by decide +kernel
theorem dX12_ship_11 : decode cX12_ship 11 = .ok (.ifCond .ne 7, 3) := by decide +kernel
theorem dX12_ship_14 : decode cX12_ship 14 = .ok (.ldc2_w 259, 3) := by decide +kernel
theorem dX12_ship_17 : decode cX12_ship 17 = .ok (.lreturn, 1) := by decide +kernel
theorem dX12_ship_18 : decode cX12_ship 18 = .ok (.iload_n 1, 1) := by decide +kernel
theorem dX12_ship_19 : decode cX12_ship 19 = .ok (.i2l, 1) := by decide +kernel
theorem dX12_ship_20 : decode cX12_ship 20 = .ok (.lconst 0, 1) := by decide +kernel
theorem dX12_ship_21 : decode cX12_ship 21 = .ok (.ldc2_w 294, 3) := by decide +kernel
theorem dX12_ship_24 : decode cX12_ship 24 = .ok (.invokestatic 71, 3) := by decide +kernel
theorem dX12_ship_27 : decode cX12_ship 27 = .ok (.ifCond .eq 15, 3) := by decide +kernel
theorem dX12_ship_30 : decode cX12_ship 30 = .ok (.aload_n 0, 1) := by decide +kernel
theorem dX12_ship_31 : decode cX12_ship 31 = .ok (.getfield 25, 3) := by decide +kernel
theorem dX12_ship_34 : decode cX12_ship 34 = .ok (.iconst 1, 1) := by decide +kernel
theorem dX12_ship_35 : decode cX12_ship 35 = .ok (.iload_n 1, 1) := by decide +kernel
theorem dX12_ship_36 : decode cX12_ship 36 = .ok (.iadd, 1) := by decide +kernel
theorem dX12_ship_37 : decode cX12_ship 37 = .ok (.iaload, 1) := by decide +kernel
theorem dX12_ship_38 : decode cX12_ship 38 = .ok (.i2l, 1) := by decide +kernel
theorem dX12_ship_39 : decode cX12_ship 39 = .ok (.goto 6, 3) := by decide +kernel
theorem dX12_ship_42 : decode cX12_ship 42 = .ok (.ldc2_w 81, 3) := by decide +kernel
theorem dX12_ship_45 : decode cX12_ship 45 = .ok (.lreturn, 1) := by decide +kernel
theorem dX12_layOne_0 : decode cX12_layOne 0 = .ok (.iconst 0, 1) := by decide +kernel
theorem dX12_layOne_1 : decode cX12_layOne 1 = .ok (.istore_n 2, 1) := by decide +kernel
theorem dX12_layOne_2 : decode cX12_layOne 2 = .ok (.iload_n 2, 1) := by decide +kernel
theorem dX12_layOne_3 : decode cX12_layOne 3 = .ok (.sipush 128, 3) := by decide +kernel
theorem dX12_layOne_6 : decode cX12_layOne 6 = .ok (.if_icmp .ge 37, 3) := by decide +kernel
theorem dX12_layOne_9 : decode cX12_layOne 9 = .ok (.aload_n 0, 1) := by decide +kernel
theorem dX12_layOne_10 : decode cX12_layOne 10 = .ok (.getfield 31, 3) := by decide +kernel
theorem dX12_layOne_13 : decode cX12_layOne 13 = .ok (.iload_n 2, 1) := by decide +kernel
theorem dX12_layOne_14 : decode cX12_layOne 14 = .ok (.iload_n 2, 1) := by decide +kernel
theorem dX12_layOne_15 : decode cX12_layOne 15 = .ok (.iload_n 1, 1) := by decide +kernel
theorem dX12_layOne_16 : decode cX12_layOne 16 = .ok (.if_icmp .ne 7, 3) := by decide +kernel
theorem dX12_layOne_19 : decode cX12_layOne 19 = .ok (.lconst 1, 1) := by decide +kernel
theorem dX12_layOne_20 : decode cX12_layOne 20 = .ok (.goto 4, 3) := by decide +kernel
theorem dX12_layOne_23 : decode cX12_layOne 23 = .ok (.lconst 0, 1) := by decide +kernel
theorem dX12_layOne_24 : decode cX12_layOne 24 = .ok (.lastore, 1) := by decide +kernel
theorem dX12_layOne_25 : decode cX12_layOne 25 = .ok (.aload_n 0, 1) := by decide +kernel
theorem dX12_layOne_26 : decode cX12_layOne 26 = .ok (.getfield 35, 3) := by decide +kernel
theorem dX12_layOne_29 : decode cX12_layOne 29 = .ok (.iload_n 2, 1) := by decide +kernel
theorem dX12_layOne_30 : decode cX12_layOne 30 = .ok (.aload_n 0, 1) := by decide +kernel
theorem dX12_layOne_31 : decode cX12_layOne 31 = .ok (.getfield 31, 3) := by decide +kernel
theorem dX12_layOne_34 : decode cX12_layOne 34 = .ok (.iload_n 2, 1) := by decide +kernel
theorem dX12_layOne_35 : decode cX12_layOne 35 = .ok (.laload, 1) := by decide +kernel
theorem dX12_layOne_36 : decode cX12_layOne 36 = .ok (.lastore, 1) := by decide +kernel
theorem dX12_layOne_37 : decode cX12_layOne 37 = .ok (.iinc 2 1, 3) := by decide +kernel
theorem dX12_layOne_40 : decode cX12_layOne 40 = .ok (.goto (-38), 3) := by decide +kernel
theorem dX12_layOne_43 : decode cX12_layOne 43 = .ok (.return_, 1) := by decide +kernel
theorem dX12_goHour_0 : decode cX12_goHour 0 = .ok (.iconst 0, 1) := by decide +kernel
theorem dX12_goHour_1 : decode cX12_goHour 1 = .ok (.istore_n 2, 1) := by decide +kernel
theorem dX12_goHour_2 : decode cX12_goHour 2 = .ok (.iload_n 2, 1) := by decide +kernel
theorem dX12_goHour_3 : decode cX12_goHour 3 = .ok (.sipush 128, 3) := by decide +kernel
theorem dX12_goHour_6 : decode cX12_goHour 6 = .ok (.if_icmp .ge 23, 3) := by decide +kernel
theorem dX12_goHour_9 : decode cX12_goHour 9 = .ok (.aload_n 0, 1) := by decide +kernel
theorem dX12_goHour_10 : decode cX12_goHour 10 = .ok (.getfield 38, 3) := by decide +kernel
theorem dX12_goHour_13 : decode cX12_goHour 13 = .ok (.iload_n 2, 1) := by decide +kernel
theorem dX12_goHour_14 : decode cX12_goHour 14 = .ok (.lconst 0, 1) := by decide +kernel
theorem dX12_goHour_15 : decode cX12_goHour 15 = .ok (.lastore, 1) := by decide +kernel
theorem dX12_goHour_16 : decode cX12_goHour 16 = .ok (.aload_n 0, 1) := by decide +kernel
theorem dX12_goHour_17 : decode cX12_goHour 17 = .ok (.getfield 41, 3) := by decide +kernel
theorem dX12_goHour_20 : decode cX12_goHour 20 = .ok (.iload_n 2, 1) := by decide +kernel
theorem dX12_goHour_21 : decode cX12_goHour 21 = .ok (.lconst 0, 1) := by decide +kernel
theorem dX12_goHour_22 : decode cX12_goHour 22 = .ok (.lastore, 1) := by decide +kernel
theorem dX12_goHour_23 : decode cX12_goHour 23 = .ok (.iinc 2 1, 3) := by decide +kernel
theorem dX12_goHour_26 : decode cX12_goHour 26 = .ok (.goto (-24), 3) := by decide +kernel
theorem dX12_goHour_29 : decode cX12_goHour 29 = .ok (.iconst 0, 1) := by decide +kernel
theorem dX12_goHour_30 : decode cX12_goHour 30 = .ok (.istore_n 2, 1) := by decide +kernel
theorem dX12_goHour_31 : decode cX12_goHour 31 = .ok (.iload_n 2, 1) := by decide +kernel
theorem dX12_goHour_32 : decode cX12_goHour 32 = .ok (.sipush 128, 3) := by decide +kernel
theorem dX12_goHour_35 : decode cX12_goHour 35 = .ok (.if_icmp .ge 102, 3) := by decide +kernel
theorem dX12_goHour_38 : decode cX12_goHour 38 = .ok (.iconst 0, 1) := by decide +kernel
theorem dX12_goHour_39 : decode cX12_goHour 39 = .ok (.istore_n 3, 1) := by decide +kernel
theorem dX12_goHour_40 : decode cX12_goHour 40 = .ok (.iload_n 3, 1) := by decide +kernel
theorem dX12_goHour_41 : decode cX12_goHour 41 = .ok (.aload_n 0, 1) := by decide +kernel
theorem dX12_goHour_42 : decode cX12_goHour 42 = .ok (.getfield 19, 3) := by decide +kernel
theorem dX12_goHour_45 : decode cX12_goHour 45 = .ok (.iconst 0, 1) := by decide +kernel
theorem dX12_goHour_46 : decode cX12_goHour 46 = .ok (.iaload, 1) := by decide +kernel
theorem dX12_goHour_47 : decode cX12_goHour 47 = .ok (.if_icmp .ge 84, 3) := by decide +kernel
theorem dX12_goHour_50 : decode cX12_goHour 50 = .ok (.aload_n 0, 1) := by decide +kernel
theorem dX12_goHour_51 : decode cX12_goHour 51 = .ok (.getfield 35, 3) := by decide +kernel
theorem dX12_goHour_54 : decode cX12_goHour 54 = .ok (.iload_n 2, 1) := by decide +kernel
theorem dX12_goHour_55 : decode cX12_goHour 55 = .ok (.laload, 1) := by decide +kernel
theorem dX12_goHour_56 : decode cX12_goHour 56 = .ok (.lconst 0, 1) := by decide +kernel
theorem dX12_goHour_57 : decode cX12_goHour 57 = .ok (.lcmp, 1) := by decide +kernel
theorem dX12_goHour_58 : decode cX12_goHour 58 = .ok (.ifCond .le 73, 3) := by decide +kernel
theorem dX12_goHour_61 : decode cX12_goHour 61 = .ok (.aload_n 0, 1) := by decide +kernel
theorem dX12_goHour_62 : decode cX12_goHour 62 = .ok (.iload_n 2, 1) := by decide +kernel
theorem dX12_goHour_63 : decode cX12_goHour 63 = .ok (.invokevirtual 246, 3) := by decide +kernel
theorem dX12_goHour_66 : decode cX12_goHour 66 = .ok (.ifCond .eq 7, 3) := by decide +kernel
theorem dX12_goHour_69 : decode cX12_goHour 69 = .ok (.iload_n 2, 1) := by decide +kernel
theorem dX12_goHour_70 : decode cX12_goHour 70 = .ok (.goto 14, 3) := by decide +kernel
theorem dX12_goHour_73 : decode cX12_goHour 73 = .ok (.aload_n 0, 1) := by decide +kernel
theorem dX12_goHour_74 : decode cX12_goHour 74 = .ok (.iload_n 2, 1) := by decide +kernel
theorem dX12_goHour_75 : decode cX12_goHour 75 = .ok (.aload_n 0, 1) := by decide +kernel
theorem dX12_goHour_76 : decode cX12_goHour 76 = .ok (.iload_n 3, 1) := by decide +kernel
theorem dX12_goHour_77 : decode cX12_goHour 77 = .ok (.iload_n 1, 1) := by decide +kernel
theorem dX12_goHour_78 : decode cX12_goHour 78 = .ok (.invokevirtual 267, 3) := by decide +kernel
theorem dX12_goHour_81 : decode cX12_goHour 81 = .ok (.invokevirtual 270, 3) := by decide +kernel
theorem dX12_goHour_84 : decode cX12_goHour 84 = .ok (.istore 4, 2) := by decide +kernel
theorem dX12_goHour_86 : decode cX12_goHour 86 = .ok (.aload_n 0, 1) := by decide +kernel
theorem dX12_goHour_87 : decode cX12_goHour 87 = .ok (.getfield 38, 3) := by decide +kernel
theorem dX12_goHour_90 : decode cX12_goHour 90 = .ok (.iload 4, 2) := by decide +kernel
theorem dX12_goHour_92 : decode cX12_goHour 92 = .ok (.dup2, 1) := by decide +kernel
theorem dX12_goHour_93 : decode cX12_goHour 93 = .ok (.laload, 1) := by decide +kernel
theorem dX12_goHour_94 : decode cX12_goHour 94 = .ok (.aload_n 0, 1) := by decide +kernel
theorem dX12_goHour_95 : decode cX12_goHour 95 = .ok (.getfield 31, 3) := by decide +kernel
theorem dX12_goHour_98 : decode cX12_goHour 98 = .ok (.iload_n 2, 1) := by decide +kernel
theorem dX12_goHour_99 : decode cX12_goHour 99 = .ok (.laload, 1) := by decide +kernel
theorem dX12_goHour_100 : decode cX12_goHour 100 = .ok (.aload_n 0, 1) := by decide +kernel
theorem dX12_goHour_101 : decode cX12_goHour 101 = .ok (.iload_n 3, 1) := by decide +kernel
theorem dX12_goHour_102 : decode cX12_goHour 102 = .ok (.invokevirtual 256, 3) := by decide +kernel
theorem dX12_goHour_105 : decode cX12_goHour 105 = .ok (.i2l, 1) := by decide +kernel
theorem dX12_goHour_106 : decode cX12_goHour 106 = .ok (.lmul, 1) := by decide +kernel
theorem dX12_goHour_107 : decode cX12_goHour 107 = .ok (.ladd, 1) := by decide +kernel
theorem dX12_goHour_108 : decode cX12_goHour 108 = .ok (.lastore, 1) := by decide +kernel
theorem dX12_goHour_109 : decode cX12_goHour 109 = .ok (.aload_n 0, 1) := by decide +kernel
theorem dX12_goHour_110 : decode cX12_goHour 110 = .ok (.getfield 41, 3) := by decide +kernel
theorem dX12_goHour_113 : decode cX12_goHour 113 = .ok (.iload 4, 2) := by decide +kernel
theorem dX12_goHour_115 : decode cX12_goHour 115 = .ok (.dup2, 1) := by decide +kernel
theorem dX12_goHour_116 : decode cX12_goHour 116 = .ok (.laload, 1) := by decide +kernel
theorem dX12_goHour_117 : decode cX12_goHour 117 = .ok (.aload_n 0, 1) := by decide +kernel
theorem dX12_goHour_118 : decode cX12_goHour 118 = .ok (.getfield 35, 3) := by decide +kernel
theorem dX12_goHour_121 : decode cX12_goHour 121 = .ok (.iload_n 2, 1) := by decide +kernel
theorem dX12_goHour_122 : decode cX12_goHour 122 = .ok (.laload, 1) := by decide +kernel
theorem dX12_goHour_123 : decode cX12_goHour 123 = .ok (.ladd, 1) := by decide +kernel
theorem dX12_goHour_124 : decode cX12_goHour 124 = .ok (.lastore, 1) := by decide +kernel
theorem dX12_goHour_125 : decode cX12_goHour 125 = .ok (.iinc 3 1, 3) := by decide +kernel
theorem dX12_goHour_128 : decode cX12_goHour 128 = .ok (.goto (-88), 3) := by decide +kernel
theorem dX12_goHour_131 : decode cX12_goHour 131 = .ok (.iinc 2 1, 3) := by decide +kernel
theorem dX12_goHour_134 : decode cX12_goHour 134 = .ok (.goto (-103), 3) := by decide +kernel
theorem dX12_goHour_137 : decode cX12_goHour 137 = .ok (.iconst 0, 1) := by decide +kernel
theorem dX12_goHour_138 : decode cX12_goHour 138 = .ok (.istore_n 2, 1) := by decide +kernel
theorem dX12_goHour_139 : decode cX12_goHour 139 = .ok (.iload_n 2, 1) := by decide +kernel
theorem dX12_goHour_140 : decode cX12_goHour 140 = .ok (.sipush 128, 3) := by decide +kernel
theorem dX12_goHour_143 : decode cX12_goHour 143 = .ok (.if_icmp .ge 33, 3) := by decide +kernel
theorem dX12_goHour_146 : decode cX12_goHour 146 = .ok (.aload_n 0, 1) := by decide +kernel
theorem dX12_goHour_147 : decode cX12_goHour 147 = .ok (.getfield 31, 3) := by decide +kernel
theorem dX12_goHour_150 : decode cX12_goHour 150 = .ok (.iload_n 2, 1) := by decide +kernel
theorem dX12_goHour_151 : decode cX12_goHour 151 = .ok (.aload_n 0, 1) := by decide +kernel
theorem dX12_goHour_152 : decode cX12_goHour 152 = .ok (.getfield 38, 3) := by decide +kernel
theorem dX12_goHour_155 : decode cX12_goHour 155 = .ok (.iload_n 2, 1) := by decide +kernel
theorem dX12_goHour_156 : decode cX12_goHour 156 = .ok (.laload, 1) := by decide +kernel
theorem dX12_goHour_157 : decode cX12_goHour 157 = .ok (.lastore, 1) := by decide +kernel
theorem dX12_goHour_158 : decode cX12_goHour 158 = .ok (.aload_n 0, 1) := by decide +kernel
theorem dX12_goHour_159 : decode cX12_goHour 159 = .ok (.getfield 35, 3) := by decide +kernel
theorem dX12_goHour_162 : decode cX12_goHour 162 = .ok (.iload_n 2, 1) := by decide +kernel
theorem dX12_goHour_163 : decode cX12_goHour 163 = .ok (.aload_n 0, 1) := by decide +kernel
theorem dX12_goHour_164 : decode cX12_goHour 164 = .ok (.getfield 41, 3) := by decide +kernel
theorem dX12_goHour_167 : decode cX12_goHour 167 = .ok (.iload_n 2, 1) := by decide +kernel
theorem dX12_goHour_168 : decode cX12_goHour 168 = .ok (.laload, 1) := by decide +kernel
theorem dX12_goHour_169 : decode cX12_goHour 169 = .ok (.lastore, 1) := by decide +kernel
theorem dX12_goHour_170 : decode cX12_goHour 170 = .ok (.iinc 2 1, 3) := by decide +kernel
theorem dX12_goHour_173 : decode cX12_goHour 173 = .ok (.goto (-34), 3) := by decide +kernel
theorem dX12_goHour_176 : decode cX12_goHour 176 = .ok (.return_, 1) := by decide +kernel
theorem dX12_goHours_0 : decode cX12_goHours 0 = .ok (.aload_n 0, 1) := by decide +kernel
theorem dX12_goHours_1 : decode cX12_goHours 1 = .ok (.iload_n 1, 1) := by decide +kernel
theorem dX12_goHours_2 : decode cX12_goHours 2 = .ok (.invokevirtual 296, 3) := by decide +kernel
theorem dX12_goHours_5 : decode cX12_goHours 5 = .ok (.iconst 0, 1) := by decide +kernel
theorem dX12_goHours_6 : decode cX12_goHours 6 = .ok (.istore 4, 2) := by decide +kernel
theorem dX12_goHours_8 : decode cX12_goHours 8 = .ok (.iload 4, 2) := by decide +kernel
theorem dX12_goHours_10 : decode cX12_goHours 10 = .ok (.iload_n 3, 1) := by decide +kernel
theorem dX12_goHours_11 : decode cX12_goHours 11 = .ok (.if_icmp .ge 14, 3) := by decide +kernel
theorem dX12_goHours_14 : decode cX12_goHours 14 = .ok (.aload_n 0, 1) := by decide +kernel
theorem dX12_goHours_15 : decode cX12_goHours 15 = .ok (.iload_n 2, 1) := by decide +kernel
theorem dX12_goHours_16 : decode cX12_goHours 16 = .ok (.invokevirtual 299, 3) := by decide +kernel
theorem dX12_goHours_19 : decode cX12_goHours 19 = .ok (.iinc 4 1, 3) := by decide +kernel
theorem dX12_goHours_22 : decode cX12_goHours 22 = .ok (.goto (-14), 3) := by decide +kernel
theorem dX12_goHours_25 : decode cX12_goHours 25 = .ok (.return_, 1) := by decide +kernel
theorem dX12_allTo_0 : decode cX12_allTo 0 = .ok (.lconst 1, 1) := by decide +kernel
theorem dX12_allTo_1 : decode cX12_allTo 1 = .ok (.lstore_n 2, 1) := by decide +kernel
theorem dX12_allTo_2 : decode cX12_allTo 2 = .ok (.iconst 0, 1) := by decide +kernel
theorem dX12_allTo_3 : decode cX12_allTo 3 = .ok (.istore 4, 2) := by decide +kernel
theorem dX12_allTo_5 : decode cX12_allTo 5 = .ok (.iload 4, 2) := by decide +kernel
theorem dX12_allTo_7 : decode cX12_allTo 7 = .ok (.iload_n 1, 1) := by decide +kernel
theorem dX12_allTo_8 : decode cX12_allTo 8 = .ok (.if_icmp .ge 17, 3) := by decide +kernel
theorem dX12_allTo_11 : decode cX12_allTo 11 = .ok (.lload_n 2, 1) := by decide +kernel
theorem dX12_allTo_12 : decode cX12_allTo 12 = .ok (.aload_n 0, 1) := by decide +kernel
theorem dX12_allTo_13 : decode cX12_allTo 13 = .ok (.invokevirtual 281, 3) := by decide +kernel
theorem dX12_allTo_16 : decode cX12_allTo 16 = .ok (.i2l, 1) := by decide +kernel
theorem dX12_allTo_17 : decode cX12_allTo 17 = .ok (.lmul, 1) := by decide +kernel
theorem dX12_allTo_18 : decode cX12_allTo 18 = .ok (.lstore_n 2, 1) := by decide +kernel
theorem dX12_allTo_19 : decode cX12_allTo 19 = .ok (.iinc 4 1, 3) := by decide +kernel
theorem dX12_allTo_22 : decode cX12_allTo 22 = .ok (.goto (-17), 3) := by decide +kernel
theorem dX12_allTo_25 : decode cX12_allTo 25 = .ok (.lload_n 2, 1) := by decide +kernel
theorem dX12_allTo_26 : decode cX12_allTo 26 = .ok (.lreturn, 1) := by decide +kernel
theorem dX12_partOf_0 : decode cX12_partOf 0 = .ok (.lload_n 0, 1) := by decide +kernel
theorem dX12_partOf_1 : decode cX12_partOf 1 = .ok (.lconst 0, 1) := by decide +kernel
theorem dX12_partOf_2 : decode cX12_partOf 2 = .ok (.lcmp, 1) := by decide +kernel
theorem dX12_partOf_3 : decode cX12_partOf 3 = .ok (.ifCond .ge 8, 3) := by decide +kernel
theorem dX12_partOf_6 : decode cX12_partOf 6 = .ok (.lload_n 0, 1) := by decide +kernel
theorem dX12_partOf_7 : decode cX12_partOf 7 = .ok (.lneg, 1) := by decide +kernel
theorem dX12_partOf_8 : decode cX12_partOf 8 = .ok (.goto 4, 3) := by decide +kernel
theorem dX12_partOf_11 : decode cX12_partOf 11 = .ok (.lload_n 0, 1) := by decide +kernel
theorem dX12_partOf_12 : decode cX12_partOf 12 = .ok (.lstore 5, 2) := by decide +kernel
theorem dX12_partOf_14 : decode cX12_partOf 14 = .ok (.lload_n 2, 1) := by decide +kernel
theorem dX12_partOf_15 : decode cX12_partOf 15 = .ok (.lstore 7, 2) := by decide +kernel
theorem dX12_partOf_17 : decode cX12_partOf 17 = .ok (.lload 7, 2) := by decide +kernel
theorem dX12_partOf_19 : decode cX12_partOf 19 = .ok (.lconst 0, 1) := by decide +kernel
theorem dX12_partOf_20 : decode cX12_partOf 20 = .ok (.lcmp, 1) := by decide +kernel
theorem dX12_partOf_21 : decode cX12_partOf 21 = .ok (.ifCond .eq 21, 3) := by decide +kernel
theorem dX12_partOf_24 : decode cX12_partOf 24 = .ok (.lload 5, 2) := by decide +kernel
theorem dX12_partOf_26 : decode cX12_partOf 26 = .ok (.lload 7, 2) := by decide +kernel
theorem dX12_partOf_28 : decode cX12_partOf 28 = .ok (.lrem, 1) := by decide +kernel
theorem dX12_partOf_29 : decode cX12_partOf 29 = .ok (.lstore 9, 2) := by decide +kernel
theorem dX12_partOf_31 : decode cX12_partOf 31 = .ok (.lload 7, 2) := by decide +kernel
theorem dX12_partOf_33 : decode cX12_partOf 33 = .ok (.lstore 5, 2) := by decide +kernel
theorem dX12_partOf_35 : decode cX12_partOf 35 = .ok (.lload 9, 2) := by decide +kernel
theorem dX12_partOf_37 : decode cX12_partOf 37 = .ok (.lstore 7, 2) := by decide +kernel
theorem dX12_partOf_39 : decode cX12_partOf 39 = .ok (.goto (-22), 3) := by decide +kernel
theorem dX12_partOf_42 : decode cX12_partOf 42 = .ok (.iload 4, 2) := by decide +kernel
theorem dX12_partOf_44 : decode cX12_partOf 44 = .ok (.ifCond .ne 7, 3) := by decide +kernel
theorem dX12_partOf_47 : decode cX12_partOf 47 = .ok (.lload_n 0, 1) := by decide +kernel
theorem dX12_partOf_48 : decode cX12_partOf 48 = .ok (.goto 4, 3) := by decide +kernel
theorem dX12_partOf_51 : decode cX12_partOf 51 = .ok (.lload_n 2, 1) := by decide +kernel
theorem dX12_partOf_52 : decode cX12_partOf 52 = .ok (.lload 5, 2) := by decide +kernel
theorem dX12_partOf_54 : decode cX12_partOf 54 = .ok (.ldiv, 1) := by decide +kernel
theorem dX12_partOf_55 : decode cX12_partOf 55 = .ok (.lreturn, 1) := by decide +kernel
theorem dX12_herself_0 : decode cX12_herself 0 = .ok (.aload_n 0, 1) := by decide +kernel
theorem dX12_herself_1 : decode cX12_herself 1 = .ok (.iconst 0, 1) := by decide +kernel
theorem dX12_herself_2 : decode cX12_herself 2 = .ok (.putfield 60, 3) := by decide +kernel
theorem dX12_herself_5 : decode cX12_herself 5 = .ok (.aload_n 0, 1) := by decide +kernel
theorem dX12_herself_6 : decode cX12_herself 6 = .ok (.iload_n 1, 1) := by decide +kernel
theorem dX12_herself_7 : decode cX12_herself 7 = .ok (.invokevirtual 302, 3) := by decide +kernel
theorem dX12_herself_10 : decode cX12_herself 10 = .ok (.ifCond .eq 44, 3) := by decide +kernel
theorem dX12_herself_13 : decode cX12_herself 13 = .ok (.aload_n 0, 1) := by decide +kernel
theorem dX12_herself_14 : decode cX12_herself 14 = .ok (.iload_n 2, 1) := by decide +kernel
theorem dX12_herself_15 : decode cX12_herself 15 = .ok (.invokevirtual 249, 3) := by decide +kernel
theorem dX12_herself_18 : decode cX12_herself 18 = .ok (.ifCond .eq 36, 3) := by decide +kernel
theorem dX12_herself_21 : decode cX12_herself 21 = .ok (.iload_n 3, 1) := by decide +kernel
theorem dX12_herself_22 : decode cX12_herself 22 = .ok (.invokestatic 264, 3) := by decide +kernel
theorem dX12_herself_25 : decode cX12_herself 25 = .ok (.ifCond .eq 29, 3) := by decide +kernel
theorem dX12_herself_28 : decode cX12_herself 28 = .ok (.iload 4, 2) := by decide +kernel
theorem dX12_herself_30 : decode cX12_herself 30 = .ok (.i2l, 1) := by decide +kernel
theorem dX12_herself_31 : decode cX12_herself 31 = .ok (.lconst 0, 1) := by decide +kernel
theorem dX12_herself_32 : decode cX12_herself 32 = .ok (.ldc2_w 87, 3) := by decide +kernel
theorem dX12_herself_35 : decode cX12_herself 35 = .ok (.invokestatic 71, 3) := by decide +kernel
theorem dX12_herself_38 : decode cX12_herself 38 = .ok (.ifCond .eq 16, 3) := by decide +kernel
theorem dX12_herself_41 : decode cX12_herself 41 = .ok (.iload 5, 2) := by decide +kernel
theorem dX12_herself_43 : decode cX12_herself 43 = .ok (.i2l, 1) := by decide +kernel
theorem dX12_herself_44 : decode cX12_herself 44 = .ok (.lconst 0, 1) := by decide +kernel
theorem dX12_herself_45 : decode cX12_herself 45 = .ok (.ldc2_w 79, 3) := by decide +kernel
theorem dX12_herself_48 : decode cX12_herself 48 = .ok (.invokestatic 71, 3) := by decide +kernel
theorem dX12_herself_51 : decode cX12_herself 51 = .ok (.ifCond .ne 7, 3) := by decide +kernel
theorem dX12_herself_54 : decode cX12_herself 54 = .ok (.ldc2_w 81, 3) := by decide +kernel
theorem dX12_herself_57 : decode cX12_herself 57 = .ok (.lreturn, 1) := by decide +kernel
theorem dX12_herself_58 : decode cX12_herself 58 = .ok (.aload_n 0, 1) := by decide +kernel
theorem dX12_herself_59 : decode cX12_herself 59 = .ok (.iload_n 1, 1) := by decide +kernel
theorem dX12_herself_60 : decode cX12_herself 60 = .ok (.iload_n 3, 1) := by decide +kernel
theorem dX12_herself_61 : decode cX12_herself 61 = .ok (.iload 4, 2) := by decide +kernel
theorem dX12_herself_63 : decode cX12_herself 63 = .ok (.invokevirtual 305, 3) := by decide +kernel
theorem dX12_herself_66 : decode cX12_herself 66 = .ok (.iload 5, 2) := by decide +kernel
theorem dX12_herself_68 : decode cX12_herself 68 = .ok (.iconst 2, 1) := by decide +kernel
theorem dX12_herself_69 : decode cX12_herself 69 = .ok (.if_icmp .ne 12, 3) := by decide +kernel
theorem dX12_herself_72 : decode cX12_herself 72 = .ok (.aload_n 0, 1) := by decide +kernel
theorem dX12_herself_73 : decode cX12_herself 73 = .ok (.getfield 35, 3) := by decide +kernel
theorem dX12_herself_76 : decode cX12_herself 76 = .ok (.iload_n 2, 1) := by decide +kernel
theorem dX12_herself_77 : decode cX12_herself 77 = .ok (.laload, 1) := by decide +kernel
theorem dX12_herself_78 : decode cX12_herself 78 = .ok (.goto 20, 3) := by decide +kernel
theorem dX12_herself_81 : decode cX12_herself 81 = .ok (.aload_n 0, 1) := by decide +kernel
theorem dX12_herself_82 : decode cX12_herself 82 = .ok (.getfield 31, 3) := by decide +kernel
theorem dX12_herself_85 : decode cX12_herself 85 = .ok (.iload_n 2, 1) := by decide +kernel
theorem dX12_herself_86 : decode cX12_herself 86 = .ok (.laload, 1) := by decide +kernel
theorem dX12_herself_87 : decode cX12_herself 87 = .ok (.aload_n 0, 1) := by decide +kernel
theorem dX12_herself_88 : decode cX12_herself 88 = .ok (.iload 4, 2) := by decide +kernel
theorem dX12_herself_90 : decode cX12_herself 90 = .ok (.invokevirtual 309, 3) := by decide +kernel
theorem dX12_herself_93 : decode cX12_herself 93 = .ok (.iload 5, 2) := by decide +kernel
theorem dX12_herself_95 : decode cX12_herself 95 = .ok (.invokestatic 312, 3) := by decide +kernel
theorem dX12_herself_98 : decode cX12_herself 98 = .ok (.lreturn, 1) := by decide +kernel
theorem dX12_could_0 : decode cX12_could 0 = .ok (.aload_n 0, 1) := by decide +kernel
theorem dX12_could_1 : decode cX12_could 1 = .ok (.iconst 0, 1) := by decide +kernel
theorem dX12_could_2 : decode cX12_could 2 = .ok (.putfield 60, 3) := by decide +kernel
theorem dX12_could_5 : decode cX12_could 5 = .ok (.aload_n 0, 1) := by decide +kernel
theorem dX12_could_6 : decode cX12_could 6 = .ok (.iload_n 1, 1) := by decide +kernel
theorem dX12_could_7 : decode cX12_could 7 = .ok (.invokevirtual 302, 3) := by decide +kernel
theorem dX12_could_10 : decode cX12_could 10 = .ok (.ifCond .eq 11, 3) := by decide +kernel
theorem dX12_could_13 : decode cX12_could 13 = .ok (.aload_n 0, 1) := by decide +kernel
theorem dX12_could_14 : decode cX12_could 14 = .ok (.iload_n 2, 1) := by decide +kernel
theorem dX12_could_15 : decode cX12_could 15 = .ok (.invokevirtual 249, 3) := by decide +kernel
theorem dX12_could_18 : decode cX12_could 18 = .ok (.ifCond .ne 7, 3) := by decide +kernel
theorem dX12_could_21 : decode cX12_could 21 = .ok (.ldc2_w 81, 3) := by decide +kernel
theorem dX12_could_24 : decode cX12_could 24 = .ok (.lreturn, 1) := by decide +kernel
theorem dX12_could_25 : decode cX12_could 25 = .ok (.iconst 0, 1) := by decide +kernel
theorem dX12_could_26 : decode cX12_could 26 = .ok (.istore_n 3, 1) := by decide +kernel
theorem dX12_could_27 : decode cX12_could 27 = .ok (.aload_n 0, 1) := by decide +kernel
theorem dX12_could_28 : decode cX12_could 28 = .ok (.iload_n 1, 1) := by decide +kernel
theorem dX12_could_29 : decode cX12_could 29 = .ok (.invokevirtual 296, 3) := by decide +kernel
theorem dX12_could_32 : decode cX12_could 32 = .ok (.iconst 0, 1) := by decide +kernel
theorem dX12_could_33 : decode cX12_could 33 = .ok (.istore 4, 2) := by decide +kernel
theorem dX12_could_35 : decode cX12_could 35 = .ok (.iload 4, 2) := by decide +kernel
theorem dX12_could_37 : decode cX12_could 37 = .ok (.bipush 9, 2) := by decide +kernel
theorem dX12_could_39 : decode cX12_could 39 = .ok (.if_icmp .ge 42, 3) := by decide +kernel
theorem dX12_could_42 : decode cX12_could 42 = .ok (.iload_n 3, 1) := by decide +kernel
theorem dX12_could_43 : decode cX12_could 43 = .ok (.aload_n 0, 1) := by decide +kernel
theorem dX12_could_44 : decode cX12_could 44 = .ok (.getfield 35, 3) := by decide +kernel
theorem dX12_could_47 : decode cX12_could 47 = .ok (.iload_n 2, 1) := by decide +kernel
theorem dX12_could_48 : decode cX12_could 48 = .ok (.laload, 1) := by decide +kernel
theorem dX12_could_49 : decode cX12_could 49 = .ok (.lconst 0, 1) := by decide +kernel
theorem dX12_could_50 : decode cX12_could 50 = .ok (.lcmp, 1) := by decide +kernel
theorem dX12_could_51 : decode cX12_could 51 = .ok (.ifCond .le 10, 3) := by decide +kernel
theorem dX12_could_54 : decode cX12_could 54 = .ok (.iconst 1, 1) := by decide +kernel
theorem dX12_could_55 : decode cX12_could 55 = .ok (.iload 4, 2) := by decide +kernel
theorem dX12_could_57 : decode cX12_could 57 = .ok (.ishl, 1) := by decide +kernel
theorem dX12_could_58 : decode cX12_could 58 = .ok (.goto 4, 3) := by decide +kernel
theorem dX12_could_61 : decode cX12_could 61 = .ok (.iconst 0, 1) := by decide +kernel
theorem dX12_could_62 : decode cX12_could 62 = .ok (.ior, 1) := by decide +kernel
theorem dX12_could_63 : decode cX12_could 63 = .ok (.istore_n 3, 1) := by decide +kernel
theorem dX12_could_64 : decode cX12_could 64 = .ok (.aload_n 0, 1) := by decide +kernel
theorem dX12_could_65 : decode cX12_could 65 = .ok (.aload_n 0, 1) := by decide +kernel
theorem dX12_could_66 : decode cX12_could 66 = .ok (.getfield 25, 3) := by decide +kernel
theorem dX12_could_69 : decode cX12_could 69 = .ok (.bipush 7, 2) := by decide +kernel
theorem dX12_could_71 : decode cX12_could 71 = .ok (.iaload, 1) := by decide +kernel
theorem dX12_could_72 : decode cX12_could 72 = .ok (.invokevirtual 299, 3) := by decide +kernel
theorem dX12_could_75 : decode cX12_could 75 = .ok (.iinc 4 1, 3) := by decide +kernel
theorem dX12_could_78 : decode cX12_could 78 = .ok (.goto (-43), 3) := by decide +kernel
theorem dX12_could_81 : decode cX12_could 81 = .ok (.iload_n 3, 1) := by decide +kernel
theorem dX12_could_82 : decode cX12_could 82 = .ok (.i2l, 1) := by decide +kernel
theorem dX12_could_83 : decode cX12_could 83 = .ok (.lreturn, 1) := by decide +kernel
theorem dX12_findBrings_0 : decode cX12_findBrings 0 = .ok (.aload_n 0, 1) := by decide +kernel
theorem dX12_findBrings_1 : decode cX12_findBrings 1 = .ok (.lconst 0, 1) := by decide +kernel
theorem dX12_findBrings_2 : decode cX12_findBrings 2 = .ok (.putfield 316, 3) := by decide +kernel
theorem dX12_findBrings_5 : decode cX12_findBrings 5 = .ok (.aload_n 0, 1) := by decide +kernel
theorem dX12_findBrings_6 : decode cX12_findBrings 6 = .ok (.iload_n 2, 1) := by decide +kernel
theorem dX12_findBrings_7 : decode cX12_findBrings 7 = .ok (.invokevirtual 296, 3) := by decide +kernel
theorem dX12_findBrings_10 : decode cX12_findBrings 10 = .ok (.iconst 0, 1) := by decide +kernel
theorem dX12_findBrings_11 : decode cX12_findBrings 11 = .ok (.istore 4, 2) := by decide +kernel
theorem dX12_findBrings_13 : decode cX12_findBrings 13 = .ok (.iload 4, 2) := by decide +kernel
theorem dX12_findBrings_15 : decode cX12_findBrings 15 = .ok (.bipush 9, 2) := by decide +kernel
theorem dX12_findBrings_17 : decode cX12_findBrings 17 = .ok (.if_icmp .ge 73, 3) := by decide +kernel
theorem dX12_findBrings_20 : decode cX12_findBrings 20 = .ok (.aload_n 0, 1) := by decide +kernel
theorem dX12_findBrings_21 : decode cX12_findBrings 21 = .ok (.getfield 44, 3) := by decide +kernel
theorem dX12_findBrings_24 : decode cX12_findBrings 24 = .ok (.iload 4, 2) := by decide +kernel
theorem dX12_findBrings_26 : decode cX12_findBrings 26 = .ok (.iload_n 1, 1) := by decide +kernel
theorem dX12_findBrings_27 : decode cX12_findBrings 27 = .ok (.iload 4, 2) := by decide +kernel
theorem dX12_findBrings_29 : decode cX12_findBrings 29 = .ok (.ishr, 1) := by decide +kernel
theorem dX12_findBrings_30 : decode cX12_findBrings 30 = .ok (.iconst 1, 1) := by decide +kernel
theorem dX12_findBrings_31 : decode cX12_findBrings 31 = .ok (.iand, 1) := by decide +kernel
theorem dX12_findBrings_32 : decode cX12_findBrings 32 = .ok (.iconst 1, 1) := by decide +kernel
theorem dX12_findBrings_33 : decode cX12_findBrings 33 = .ok (.if_icmp .ne 22, 3) := by decide +kernel
theorem dX12_findBrings_36 : decode cX12_findBrings 36 = .ok (.aload_n 0, 1) := by decide +kernel
theorem dX12_findBrings_37 : decode cX12_findBrings 37 = .ok (.getfield 31, 3) := by decide +kernel
theorem dX12_findBrings_40 : decode cX12_findBrings 40 = .ok (.iload_n 3, 1) := by decide +kernel
theorem dX12_findBrings_41 : decode cX12_findBrings 41 = .ok (.laload, 1) := by decide +kernel
theorem dX12_findBrings_42 : decode cX12_findBrings 42 = .ok (.aload_n 0, 1) := by decide +kernel
theorem dX12_findBrings_43 : decode cX12_findBrings 43 = .ok (.bipush 8, 2) := by decide +kernel
theorem dX12_findBrings_45 : decode cX12_findBrings 45 = .ok (.iload 4, 2) := by decide +kernel
theorem dX12_findBrings_47 : decode cX12_findBrings 47 = .ok (.isub, 1) := by decide +kernel
theorem dX12_findBrings_48 : decode cX12_findBrings 48 = .ok (.invokevirtual 309, 3) := by decide +kernel
theorem dX12_findBrings_51 : decode cX12_findBrings 51 = .ok (.lmul, 1) := by decide +kernel
theorem dX12_findBrings_52 : decode cX12_findBrings 52 = .ok (.goto 4, 3) := by decide +kernel
theorem dX12_findBrings_55 : decode cX12_findBrings 55 = .ok (.lconst 0, 1) := by decide +kernel
theorem dX12_findBrings_56 : decode cX12_findBrings 56 = .ok (.lastore, 1) := by decide +kernel
theorem dX12_findBrings_57 : decode cX12_findBrings 57 = .ok (.aload_n 0, 1) := by decide +kernel
theorem dX12_findBrings_58 : decode cX12_findBrings 58 = .ok (.dup, 1) := by decide +kernel
theorem dX12_findBrings_59 : decode cX12_findBrings 59 = .ok (.getfield 316, 3) := by decide +kernel
theorem dX12_findBrings_62 : decode cX12_findBrings 62 = .ok (.aload_n 0, 1) := by decide +kernel
theorem dX12_findBrings_63 : decode cX12_findBrings 63 = .ok (.getfield 44, 3) := by decide +kernel
theorem dX12_findBrings_66 : decode cX12_findBrings 66 = .ok (.iload 4, 2) := by decide +kernel
theorem dX12_findBrings_68 : decode cX12_findBrings 68 = .ok (.laload, 1) := by decide +kernel
theorem dX12_findBrings_69 : decode cX12_findBrings 69 = .ok (.ladd, 1) := by decide +kernel
theorem dX12_findBrings_70 : decode cX12_findBrings 70 = .ok (.putfield 316, 3) := by decide +kernel
theorem dX12_findBrings_73 : decode cX12_findBrings 73 = .ok (.aload_n 0, 1) := by decide +kernel
theorem dX12_findBrings_74 : decode cX12_findBrings 74 = .ok (.aload_n 0, 1) := by decide +kernel
theorem dX12_findBrings_75 : decode cX12_findBrings 75 = .ok (.getfield 25, 3) := by decide +kernel
theorem dX12_findBrings_78 : decode cX12_findBrings 78 = .ok (.bipush 7, 2) := by decide +kernel
theorem dX12_findBrings_80 : decode cX12_findBrings 80 = .ok (.iaload, 1) := by decide +kernel
theorem dX12_findBrings_81 : decode cX12_findBrings 81 = .ok (.invokevirtual 299, 3) := by decide +kernel
theorem dX12_findBrings_84 : decode cX12_findBrings 84 = .ok (.iinc 4 1, 3) := by decide +kernel
theorem dX12_findBrings_87 : decode cX12_findBrings 87 = .ok (.goto (-74), 3) := by decide +kernel
theorem dX12_findBrings_90 : decode cX12_findBrings 90 = .ok (.return_, 1) := by decide +kernel
theorem dX12_leftAt_0 : decode cX12_leftAt 0 = .ok (.aload_n 0, 1) := by decide +kernel
theorem dX12_leftAt_1 : decode cX12_leftAt 1 = .ok (.iconst 0, 1) := by decide +kernel
theorem dX12_leftAt_2 : decode cX12_leftAt 2 = .ok (.putfield 60, 3) := by decide +kernel
theorem dX12_leftAt_5 : decode cX12_leftAt 5 = .ok (.iload_n 1, 1) := by decide +kernel
theorem dX12_leftAt_6 : decode cX12_leftAt 6 = .ok (.i2l, 1) := by decide +kernel
theorem dX12_leftAt_7 : decode cX12_leftAt 7 = .ok (.lconst 1, 1) := by decide +kernel
theorem dX12_leftAt_8 : decode cX12_leftAt 8 = .ok (.ldc2_w 320, 3) := by decide +kernel
theorem dX12_leftAt_11 : decode cX12_leftAt 11 = .ok (.invokestatic 71, 3) := by decide +kernel
theorem dX12_leftAt_14 : decode cX12_leftAt 14 = .ok (.ifCond .eq 19, 3) := by decide +kernel
theorem dX12_leftAt_17 : decode cX12_leftAt 17 = .ok (.aload_n 0, 1) := by decide +kernel
theorem dX12_leftAt_18 : decode cX12_leftAt 18 = .ok (.iload_n 2, 1) := by decide +kernel
theorem dX12_leftAt_19 : decode cX12_leftAt 19 = .ok (.invokevirtual 302, 3) := by decide +kernel
theorem dX12_leftAt_22 : decode cX12_leftAt 22 = .ok (.ifCond .eq 11, 3) := by decide +kernel
theorem dX12_leftAt_25 : decode cX12_leftAt 25 = .ok (.aload_n 0, 1) := by decide +kernel
theorem dX12_leftAt_26 : decode cX12_leftAt 26 = .ok (.iload_n 3, 1) := by decide +kernel
theorem dX12_leftAt_27 : decode cX12_leftAt 27 = .ok (.invokevirtual 249, 3) := by decide +kernel
theorem dX12_leftAt_30 : decode cX12_leftAt 30 = .ok (.ifCond .ne 7, 3) := by decide +kernel
theorem dX12_leftAt_33 : decode cX12_leftAt 33 = .ok (.ldc2_w 81, 3) := by decide +kernel
theorem dX12_leftAt_36 : decode cX12_leftAt 36 = .ok (.lreturn, 1) := by decide +kernel
theorem dX12_leftAt_37 : decode cX12_leftAt 37 = .ok (.aload_n 0, 1) := by decide +kernel
theorem dX12_leftAt_38 : decode cX12_leftAt 38 = .ok (.iload_n 1, 1) := by decide +kernel
theorem dX12_leftAt_39 : decode cX12_leftAt 39 = .ok (.iload_n 2, 1) := by decide +kernel
theorem dX12_leftAt_40 : decode cX12_leftAt 40 = .ok (.iload_n 3, 1) := by decide +kernel
theorem dX12_leftAt_41 : decode cX12_leftAt 41 = .ok (.invokevirtual 322, 3) := by decide +kernel
theorem dX12_leftAt_44 : decode cX12_leftAt 44 = .ok (.ldc 99, 2) := by decide +kernel
theorem dX12_leftAt_46 : decode cX12_leftAt 46 = .ok (.istore 4, 2) := by decide +kernel
theorem dX12_leftAt_48 : decode cX12_leftAt 48 = .ok (.lconst 0, 1) := by decide +kernel
theorem dX12_leftAt_49 : decode cX12_leftAt 49 = .ok (.lstore 5, 2) := by decide +kernel
theorem dX12_leftAt_51 : decode cX12_leftAt 51 = .ok (.iconst 0, 1) := by decide +kernel
theorem dX12_leftAt_52 : decode cX12_leftAt 52 = .ok (.istore 7, 2) := by decide +kernel
theorem dX12_leftAt_54 : decode cX12_leftAt 54 = .ok (.iload 7, 2) := by decide +kernel
theorem dX12_leftAt_56 : decode cX12_leftAt 56 = .ok (.bipush 9, 2) := by decide +kernel
theorem dX12_leftAt_58 : decode cX12_leftAt 58 = .ok (.if_icmp .ge 35, 3) := by decide +kernel
theorem dX12_leftAt_61 : decode cX12_leftAt 61 = .ok (.aload_n 0, 1) := by decide +kernel
theorem dX12_leftAt_62 : decode cX12_leftAt 62 = .ok (.getfield 44, 3) := by decide +kernel
theorem dX12_leftAt_65 : decode cX12_leftAt 65 = .ok (.iload 7, 2) := by decide +kernel
theorem dX12_leftAt_67 : decode cX12_leftAt 67 = .ok (.laload, 1) := by decide +kernel
theorem dX12_leftAt_68 : decode cX12_leftAt 68 = .ok (.lload 5, 2) := by decide +kernel
theorem dX12_leftAt_70 : decode cX12_leftAt 70 = .ok (.lcmp, 1) := by decide +kernel
theorem dX12_leftAt_71 : decode cX12_leftAt 71 = .ok (.ifCond .le 16, 3) := by decide +kernel
theorem dX12_leftAt_74 : decode cX12_leftAt 74 = .ok (.iload 7, 2) := by decide +kernel
theorem dX12_leftAt_76 : decode cX12_leftAt 76 = .ok (.istore 4, 2) := by decide +kernel
theorem dX12_leftAt_78 : decode cX12_leftAt 78 = .ok (.aload_n 0, 1) := by decide +kernel
theorem dX12_leftAt_79 : decode cX12_leftAt 79 = .ok (.getfield 44, 3) := by decide +kernel
theorem dX12_leftAt_82 : decode cX12_leftAt 82 = .ok (.iload 7, 2) := by decide +kernel
theorem dX12_leftAt_84 : decode cX12_leftAt 84 = .ok (.laload, 1) := by decide +kernel
theorem dX12_leftAt_85 : decode cX12_leftAt 85 = .ok (.lstore 5, 2) := by decide +kernel
theorem dX12_leftAt_87 : decode cX12_leftAt 87 = .ok (.iinc 7 1, 3) := by decide +kernel
theorem dX12_leftAt_90 : decode cX12_leftAt 90 = .ok (.goto (-36), 3) := by decide +kernel
theorem dX12_leftAt_93 : decode cX12_leftAt 93 = .ok (.iload 4, 2) := by decide +kernel
theorem dX12_leftAt_95 : decode cX12_leftAt 95 = .ok (.i2l, 1) := by decide +kernel
theorem dX12_leftAt_96 : decode cX12_leftAt 96 = .ok (.lreturn, 1) := by decide +kernel
theorem dX12_leftOdds_0 : decode cX12_leftOdds 0 = .ok (.aload_n 0, 1) := by decide +kernel
theorem dX12_leftOdds_1 : decode cX12_leftOdds 1 = .ok (.iconst 0, 1) := by decide +kernel
theorem dX12_leftOdds_2 : decode cX12_leftOdds 2 = .ok (.putfield 60, 3) := by decide +kernel
theorem dX12_leftOdds_5 : decode cX12_leftOdds 5 = .ok (.iload_n 1, 1) := by decide +kernel
theorem dX12_leftOdds_6 : decode cX12_leftOdds 6 = .ok (.i2l, 1) := by decide +kernel
theorem dX12_leftOdds_7 : decode cX12_leftOdds 7 = .ok (.lconst 1, 1) := by decide +kernel
theorem dX12_leftOdds_8 : decode cX12_leftOdds 8 = .ok (.ldc2_w 320, 3) := by decide +kernel
theorem dX12_leftOdds_11 : decode cX12_leftOdds 11 = .ok (.invokestatic 71, 3) := by decide +kernel
theorem dX12_leftOdds_14 : decode cX12_leftOdds 14 = .ok (.ifCond .eq 52, 3) := by decide +kernel
theorem dX12_leftOdds_17 : decode cX12_leftOdds 17 = .ok (.aload_n 0, 1) := by decide +kernel
theorem dX12_leftOdds_18 : decode cX12_leftOdds 18 = .ok (.iload_n 2, 1) := by decide +kernel
theorem dX12_leftOdds_19 : decode cX12_leftOdds 19 = .ok (.invokevirtual 302, 3) := by decide +kernel
theorem dX12_leftOdds_22 : decode cX12_leftOdds 22 = .ok (.ifCond .eq 44, 3) := by decide +kernel
theorem dX12_leftOdds_25 : decode cX12_leftOdds 25 = .ok (.aload_n 0, 1) := by decide +kernel
theorem dX12_leftOdds_26 : decode cX12_leftOdds 26 = .ok (.iload_n 3, 1) := by decide +kernel
theorem dX12_leftOdds_27 : decode cX12_leftOdds 27 = .ok (.invokevirtual 249, 3) := by decide +kernel
theorem dX12_leftOdds_30 : decode cX12_leftOdds 30 = .ok (.ifCond .eq 36, 3) := by decide +kernel
theorem dX12_leftOdds_33 : decode cX12_leftOdds 33 = .ok (.iload 4, 2) := by decide +kernel
theorem dX12_leftOdds_35 : decode cX12_leftOdds 35 = .ok (.i2l, 1) := by decide +kernel
theorem dX12_leftOdds_36 : decode cX12_leftOdds 36 = .ok (.lconst 0, 1) := by decide +kernel
theorem dX12_leftOdds_37 : decode cX12_leftOdds 37 = .ok (.ldc2_w 87, 3) := by decide +kernel
theorem dX12_leftOdds_40 : decode cX12_leftOdds 40 = .ok (.invokestatic 71, 3) := by decide +kernel
theorem dX12_leftOdds_43 : decode cX12_leftOdds 43 = .ok (.ifCond .eq 23, 3) := by decide +kernel
theorem dX12_leftOdds_46 : decode cX12_leftOdds 46 = .ok (.iload_n 1, 1) := by decide +kernel
theorem dX12_leftOdds_47 : decode cX12_leftOdds 47 = .ok (.iload 4, 2) := by decide +kernel
theorem dX12_leftOdds_49 : decode cX12_leftOdds 49 = .ok (.ishr, 1) := by decide +kernel
theorem dX12_leftOdds_50 : decode cX12_leftOdds 50 = .ok (.iconst 1, 1) := by decide +kernel
theorem dX12_leftOdds_51 : decode cX12_leftOdds 51 = .ok (.iand, 1) := by decide +kernel
theorem dX12_leftOdds_52 : decode cX12_leftOdds 52 = .ok (.ifCond .eq 14, 3) := by decide +kernel
theorem dX12_leftOdds_55 : decode cX12_leftOdds 55 = .ok (.iload 5, 2) := by decide +kernel
theorem dX12_leftOdds_57 : decode cX12_leftOdds 57 = .ok (.i2l, 1) := by decide +kernel
theorem dX12_leftOdds_58 : decode cX12_leftOdds 58 = .ok (.lconst 0, 1) := by decide +kernel
theorem dX12_leftOdds_59 : decode cX12_leftOdds 59 = .ok (.lconst 1, 1) := by decide +kernel
theorem dX12_leftOdds_60 : decode cX12_leftOdds 60 = .ok (.invokestatic 71, 3) := by decide +kernel
theorem dX12_leftOdds_63 : decode cX12_leftOdds 63 = .ok (.ifCond .ne 7, 3) := by decide +kernel
theorem dX12_leftOdds_66 : decode cX12_leftOdds 66 = .ok (.ldc2_w 81, 3) := by decide +kernel
theorem dX12_leftOdds_69 : decode cX12_leftOdds 69 = .ok (.lreturn, 1) := by decide +kernel
theorem dX12_leftOdds_70 : decode cX12_leftOdds 70 = .ok (.aload_n 0, 1) := by decide +kernel
theorem dX12_leftOdds_71 : decode cX12_leftOdds 71 = .ok (.iload_n 1, 1) := by decide +kernel
theorem dX12_leftOdds_72 : decode cX12_leftOdds 72 = .ok (.iload_n 2, 1) := by decide +kernel
theorem dX12_leftOdds_73 : decode cX12_leftOdds 73 = .ok (.iload_n 3, 1) := by decide +kernel
theorem dX12_leftOdds_74 : decode cX12_leftOdds 74 = .ok (.invokevirtual 322, 3) := by decide +kernel
theorem dX12_leftOdds_77 : decode cX12_leftOdds 77 = .ok (.aload_n 0, 1) := by decide +kernel
theorem dX12_leftOdds_78 : decode cX12_leftOdds 78 = .ok (.getfield 316, 3) := by decide +kernel
theorem dX12_leftOdds_81 : decode cX12_leftOdds 81 = .ok (.lconst 0, 1) := by decide +kernel
theorem dX12_leftOdds_82 : decode cX12_leftOdds 82 = .ok (.lcmp, 1) := by decide +kernel
theorem dX12_leftOdds_83 : decode cX12_leftOdds 83 = .ok (.ifCond .ne 9, 3) := by decide +kernel
theorem dX12_leftOdds_86 : decode cX12_leftOdds 86 = .ok (.ldc2_w 325, 3) := by decide +kernel
theorem dX12_leftOdds_89 : decode cX12_leftOdds 89 = .ok (.goto 19, 3) := by decide +kernel
theorem dX12_leftOdds_92 : decode cX12_leftOdds 92 = .ok (.aload_n 0, 1) := by decide +kernel
theorem dX12_leftOdds_93 : decode cX12_leftOdds 93 = .ok (.getfield 44, 3) := by decide +kernel
theorem dX12_leftOdds_96 : decode cX12_leftOdds 96 = .ok (.iload 4, 2) := by decide +kernel
theorem dX12_leftOdds_98 : decode cX12_leftOdds 98 = .ok (.laload, 1) := by decide +kernel
theorem dX12_leftOdds_99 : decode cX12_leftOdds 99 = .ok (.aload_n 0, 1) := by decide +kernel
theorem dX12_leftOdds_100 : decode cX12_leftOdds 100 = .ok (.getfield 316, 3) := by decide +kernel
theorem dX12_leftOdds_103 : decode cX12_leftOdds 103 = .ok (.iload 5, 2) := by decide +kernel
theorem dX12_leftOdds_105 : decode cX12_leftOdds 105 = .ok (.invokestatic 312, 3) := by decide +kernel
theorem dX12_leftOdds_108 : decode cX12_leftOdds 108 = .ok (.lreturn, 1) := by decide +kernel
theorem dX12_boat_0 : decode cX12_boat 0 = .ok (.aload_n 0, 1) := by decide +kernel
theorem dX12_boat_1 : decode cX12_boat 1 = .ok (.iconst 0, 1) := by decide +kernel
theorem dX12_boat_2 : decode cX12_boat 2 = .ok (.putfield 60, 3) := by decide +kernel
theorem dX12_boat_5 : decode cX12_boat 5 = .ok (.aload_n 0, 1) := by decide +kernel
theorem dX12_boat_6 : decode cX12_boat 6 = .ok (.iload_n 1, 1) := by decide +kernel
theorem dX12_boat_7 : decode cX12_boat 7 = .ok (.invokevirtual 302, 3) := by decide +kernel
theorem dX12_boat_10 : decode cX12_boat 10 = .ok (.ifCond .eq 22, 3) := by decide +kernel
theorem dX12_boat_13 : decode cX12_boat 13 = .ok (.iload_n 2, 1) := by decide +kernel
theorem dX12_boat_14 : decode cX12_boat 14 = .ok (.invokestatic 264, 3) := by decide +kernel
theorem dX12_boat_17 : decode cX12_boat 17 = .ok (.ifCond .eq 15, 3) := by decide +kernel
theorem dX12_boat_20 : decode cX12_boat 20 = .ok (.iload_n 3, 1) := by decide +kernel
theorem dX12_boat_21 : decode cX12_boat 21 = .ok (.i2l, 1) := by decide +kernel
theorem dX12_boat_22 : decode cX12_boat 22 = .ok (.lconst 0, 1) := by decide +kernel
theorem dX12_boat_23 : decode cX12_boat 23 = .ok (.ldc2_w 87, 3) := by decide +kernel
theorem dX12_boat_26 : decode cX12_boat 26 = .ok (.invokestatic 71, 3) := by decide +kernel
theorem dX12_boat_29 : decode cX12_boat 29 = .ok (.ifCond .ne 7, 3) := by decide +kernel
theorem dX12_boat_32 : decode cX12_boat 32 = .ok (.ldc2_w 81, 3) := by decide +kernel
theorem dX12_boat_35 : decode cX12_boat 35 = .ok (.lreturn, 1) := by decide +kernel
theorem dX12_boat_36 : decode cX12_boat 36 = .ok (.aload_n 0, 1) := by decide +kernel
theorem dX12_boat_37 : decode cX12_boat 37 = .ok (.iload_n 1, 1) := by decide +kernel
theorem dX12_boat_38 : decode cX12_boat 38 = .ok (.iload_n 2, 1) := by decide +kernel
theorem dX12_boat_39 : decode cX12_boat 39 = .ok (.iload_n 3, 1) := by decide +kernel
theorem dX12_boat_40 : decode cX12_boat 40 = .ok (.invokevirtual 305, 3) := by decide +kernel
theorem dX12_boat_43 : decode cX12_boat 43 = .ok (.iconst 0, 1) := by decide +kernel
theorem dX12_boat_44 : decode cX12_boat 44 = .ok (.istore 4, 2) := by decide +kernel
theorem dX12_boat_46 : decode cX12_boat 46 = .ok (.iconst 1, 1) := by decide +kernel
theorem dX12_boat_47 : decode cX12_boat 47 = .ok (.istore 5, 2) := by decide +kernel
theorem dX12_boat_49 : decode cX12_boat 49 = .ok (.iload 5, 2) := by decide +kernel
theorem dX12_boat_51 : decode cX12_boat 51 = .ok (.sipush 128, 3) := by decide +kernel
theorem dX12_boat_54 : decode cX12_boat 54 = .ok (.if_icmp .ge 36, 3) := by decide +kernel
theorem dX12_boat_57 : decode cX12_boat 57 = .ok (.aload_n 0, 1) := by decide +kernel
theorem dX12_boat_58 : decode cX12_boat 58 = .ok (.getfield 31, 3) := by decide +kernel
theorem dX12_boat_61 : decode cX12_boat 61 = .ok (.iload 5, 2) := by decide +kernel
theorem dX12_boat_63 : decode cX12_boat 63 = .ok (.laload, 1) := by decide +kernel
theorem dX12_boat_64 : decode cX12_boat 64 = .ok (.aload_n 0, 1) := by decide +kernel
theorem dX12_boat_65 : decode cX12_boat 65 = .ok (.getfield 31, 3) := by decide +kernel
theorem dX12_boat_68 : decode cX12_boat 68 = .ok (.iload 4, 2) := by decide +kernel
theorem dX12_boat_70 : decode cX12_boat 70 = .ok (.laload, 1) := by decide +kernel
theorem dX12_boat_71 : decode cX12_boat 71 = .ok (.lcmp, 1) := by decide +kernel
theorem dX12_boat_72 : decode cX12_boat 72 = .ok (.ifCond .le 8, 3) := by decide +kernel
theorem dX12_boat_75 : decode cX12_boat 75 = .ok (.iload 5, 2) := by decide +kernel
theorem dX12_boat_77 : decode cX12_boat 77 = .ok (.goto 5, 3) := by decide +kernel
theorem dX12_boat_80 : decode cX12_boat 80 = .ok (.iload 4, 2) := by decide +kernel
theorem dX12_boat_82 : decode cX12_boat 82 = .ok (.istore 4, 2) := by decide +kernel
theorem dX12_boat_84 : decode cX12_boat 84 = .ok (.iinc 5 1, 3) := by decide +kernel
theorem dX12_boat_87 : decode cX12_boat 87 = .ok (.goto (-38), 3) := by decide +kernel
theorem dX12_boat_90 : decode cX12_boat 90 = .ok (.iload 4, 2) := by decide +kernel
theorem dX12_boat_92 : decode cX12_boat 92 = .ok (.i2l, 1) := by decide +kernel
theorem dX12_boat_93 : decode cX12_boat 93 = .ok (.lreturn, 1) := by decide +kernel
theorem dX12_thought_0 : decode cX12_thought 0 = .ok (.aload_n 0, 1) := by decide +kernel
theorem dX12_thought_1 : decode cX12_thought 1 = .ok (.iconst 0, 1) := by decide +kernel
theorem dX12_thought_2 : decode cX12_thought 2 = .ok (.putfield 60, 3) := by decide +kernel
theorem dX12_thought_5 : decode cX12_thought 5 = .ok (.iload_n 1, 1) := by decide +kernel
theorem dX12_thought_6 : decode cX12_thought 6 = .ok (.i2l, 1) := by decide +kernel
theorem dX12_thought_7 : decode cX12_thought 7 = .ok (.ldc2_w 327, 3) := by decide +kernel
theorem dX12_thought_10 : decode cX12_thought 10 = .ok (.ldc2_w 329, 3) := by decide +kernel
theorem dX12_thought_13 : decode cX12_thought 13 = .ok (.invokestatic 71, 3) := by decide +kernel
theorem dX12_thought_16 : decode cX12_thought 16 = .ok (.ifCond .eq 38, 3) := by decide +kernel
theorem dX12_thought_19 : decode cX12_thought 19 = .ok (.iload_n 2, 1) := by decide +kernel
theorem dX12_thought_20 : decode cX12_thought 20 = .ok (.i2l, 1) := by decide +kernel
theorem dX12_thought_21 : decode cX12_thought 21 = .ok (.ldc2_w 331, 3) := by decide +kernel
theorem dX12_thought_24 : decode cX12_thought 24 = .ok (.ldc2_w 333, 3) := by decide +kernel
theorem dX12_thought_27 : decode cX12_thought 27 = .ok (.invokestatic 71, 3) := by decide +kernel
theorem dX12_thought_30 : decode cX12_thought 30 = .ok (.ifCond .eq 24, 3) := by decide +kernel
theorem dX12_thought_33 : decode cX12_thought 33 = .ok (.iload_n 3, 1) := by decide +kernel
theorem dX12_thought_34 : decode cX12_thought 34 = .ok (.i2l, 1) := by decide +kernel
theorem dX12_thought_35 : decode cX12_thought 35 = .ok (.lconst 1, 1) := by decide +kernel
theorem dX12_thought_36 : decode cX12_thought 36 = .ok (.ldc2_w 335, 3) := by decide +kernel
theorem dX12_thought_39 : decode cX12_thought 39 = .ok (.invokestatic 71, 3) := by decide +kernel
theorem dX12_thought_42 : decode cX12_thought 42 = .ok (.ifCond .eq 12, 3) := by decide +kernel
theorem dX12_thought_45 : decode cX12_thought 45 = .ok (.iload_n 1, 1) := by decide +kernel
theorem dX12_thought_46 : decode cX12_thought 46 = .ok (.iload_n 2, 1) := by decide +kernel
theorem dX12_thought_47 : decode cX12_thought 47 = .ok (.iload_n 3, 1) := by decide +kernel
theorem dX12_thought_48 : decode cX12_thought 48 = .ok (.idiv, 1) := by decide +kernel
theorem dX12_thought_49 : decode cX12_thought 49 = .ok (.iadd, 1) := by decide +kernel
theorem dX12_thought_50 : decode cX12_thought 50 = .ok (.i2l, 1) := by decide +kernel
theorem dX12_thought_51 : decode cX12_thought 51 = .ok (.goto 6, 3) := by decide +kernel
theorem dX12_thought_54 : decode cX12_thought 54 = .ok (.ldc2_w 81, 3) := by decide +kernel
theorem dX12_thought_57 : decode cX12_thought 57 = .ok (.lreturn, 1) := by decide +kernel
theorem dX12_held_0 : decode cX12_held 0 = .ok (.iload_n 1, 1) := by decide +kernel
theorem dX12_held_1 : decode cX12_held 1 = .ok (.ifCond .ge 7, 3) := by decide +kernel
theorem dX12_held_4 : decode cX12_held 4 = .ok (.iconst 0, 1) := by decide +kernel
theorem dX12_held_5 : decode cX12_held 5 = .ok (.goto 25, 3) := by decide +kernel
theorem dX12_held_8 : decode cX12_held 8 = .ok (.iload_n 1, 1) := by decide +kernel
theorem dX12_held_9 : decode cX12_held 9 = .ok (.aload_n 0, 1) := by decide +kernel
theorem dX12_held_10 : decode cX12_held 10 = .ok (.getfield 19, 3) := by decide +kernel
theorem dX12_held_13 : decode cX12_held 13 = .ok (.bipush 11, 2) := by decide +kernel
theorem dX12_held_15 : decode cX12_held 15 = .ok (.iaload, 1) := by decide +kernel
theorem dX12_held_16 : decode cX12_held 16 = .ok (.if_icmp .le 13, 3) := by decide +kernel
theorem dX12_held_19 : decode cX12_held 19 = .ok (.aload_n 0, 1) := by decide +kernel
theorem dX12_held_20 : decode cX12_held 20 = .ok (.getfield 19, 3) := by decide +kernel
theorem dX12_held_23 : decode cX12_held 23 = .ok (.bipush 11, 2) := by decide +kernel
theorem dX12_held_25 : decode cX12_held 25 = .ok (.iaload, 1) := by decide +kernel
theorem dX12_held_26 : decode cX12_held 26 = .ok (.goto 4, 3) := by decide +kernel
theorem dX12_held_29 : decode cX12_held 29 = .ok (.iload_n 1, 1) := by decide +kernel
theorem dX12_held_30 : decode cX12_held 30 = .ok (.ireturn, 1) := by decide +kernel
theorem dX12_isRod_0 : decode cX12_isRod 0 = .ok (.iload_n 0, 1) := by decide +kernel
theorem dX12_isRod_1 : decode cX12_isRod 1 = .ok (.i2l, 1) := by decide +kernel
theorem dX12_isRod_2 : decode cX12_isRod 2 = .ok (.lconst 0, 1) := by decide +kernel
theorem dX12_isRod_3 : decode cX12_isRod 3 = .ok (.ldc2_w 337, 3) := by decide +kernel
theorem dX12_isRod_6 : decode cX12_isRod 6 = .ok (.invokestatic 71, 3) := by decide +kernel
theorem dX12_isRod_9 : decode cX12_isRod 9 = .ok (.ifCond .eq 19, 3) := by decide +kernel
theorem dX12_isRod_12 : decode cX12_isRod 12 = .ok (.iload_n 1, 1) := by decide +kernel
theorem dX12_isRod_13 : decode cX12_isRod 13 = .ok (.i2l, 1) := by decide +kernel
theorem dX12_isRod_14 : decode cX12_isRod 14 = .ok (.lconst 0, 1) := by decide +kernel
theorem dX12_isRod_15 : decode cX12_isRod 15 = .ok (.ldc2_w 339, 3) := by decide +kernel
theorem dX12_isRod_18 : decode cX12_isRod 18 = .ok (.invokestatic 71, 3) := by decide +kernel
theorem dX12_isRod_21 : decode cX12_isRod 21 = .ok (.ifCond .eq 7, 3) := by decide +kernel
theorem dX12_isRod_24 : decode cX12_isRod 24 = .ok (.iconst 1, 1) := by decide +kernel
theorem dX12_isRod_25 : decode cX12_isRod 25 = .ok (.goto 4, 3) := by decide +kernel
theorem dX12_isRod_28 : decode cX12_isRod 28 = .ok (.iconst 0, 1) := by decide +kernel
theorem dX12_isRod_29 : decode cX12_isRod 29 = .ok (.ireturn, 1) := by decide +kernel
theorem dX12_seemed_0 : decode cX12_seemed 0 = .ok (.aload_n 0, 1) := by decide +kernel
theorem dX12_seemed_1 : decode cX12_seemed 1 = .ok (.iconst 0, 1) := by decide +kernel
theorem dX12_seemed_2 : decode cX12_seemed 2 = .ok (.putfield 60, 3) := by decide +kernel
theorem dX12_seemed_5 : decode cX12_seemed 5 = .ok (.aload_n 0, 1) := by decide +kernel
theorem dX12_seemed_6 : decode cX12_seemed 6 = .ok (.getfield 238, 3) := by decide +kernel
theorem dX12_seemed_9 : decode cX12_seemed 9 = .ok (.ifCond .ne 7, 3) := by decide +kernel
theorem dX12_seemed_12 : decode cX12_seemed 12 = .ok (.ldc2_w 259, 3) := by decide +kernel
theorem dX12_seemed_15 : decode cX12_seemed 15 = .ok (.lreturn, 1) := by decide +kernel
theorem dX12_seemed_16 : decode cX12_seemed 16 = .ok (.iload_n 1, 1) := by decide +kernel
theorem dX12_seemed_17 : decode cX12_seemed 17 = .ok (.iload_n 2, 1) := by decide +kernel
theorem dX12_seemed_18 : decode cX12_seemed 18 = .ok (.invokestatic 341, 3) := by decide +kernel
theorem dX12_seemed_21 : decode cX12_seemed 21 = .ok (.ifCond .eq 34, 3) := by decide +kernel
theorem dX12_seemed_24 : decode cX12_seemed 24 = .ok (.iload_n 3, 1) := by decide +kernel
theorem dX12_seemed_25 : decode cX12_seemed 25 = .ok (.i2l, 1) := by decide +kernel
theorem dX12_seemed_26 : decode cX12_seemed 26 = .ok (.lconst 0, 1) := by decide +kernel
theorem dX12_seemed_27 : decode cX12_seemed 27 = .ok (.lconst 1, 1) := by decide +kernel
theorem dX12_seemed_28 : decode cX12_seemed 28 = .ok (.invokestatic 71, 3) := by decide +kernel
theorem dX12_seemed_31 : decode cX12_seemed 31 = .ok (.ifCond .eq 24, 3) := by decide +kernel
theorem dX12_seemed_34 : decode cX12_seemed 34 = .ok (.aload_n 0, 1) := by decide +kernel
theorem dX12_seemed_35 : decode cX12_seemed 35 = .ok (.iload_n 3, 1) := by decide +kernel
theorem dX12_seemed_36 : decode cX12_seemed 36 = .ok (.ifCond .ne 9, 3) := by decide +kernel
theorem dX12_seemed_39 : decode cX12_seemed 39 = .ok (.iload_n 1, 1) := by decide +kernel
theorem dX12_seemed_40 : decode cX12_seemed 40 = .ok (.iload_n 2, 1) := by decide +kernel
theorem dX12_seemed_41 : decode cX12_seemed 41 = .ok (.isub, 1) := by decide +kernel
theorem dX12_seemed_42 : decode cX12_seemed 42 = .ok (.goto 6, 3) := by decide +kernel
theorem dX12_seemed_45 : decode cX12_seemed 45 = .ok (.iload_n 1, 1) := by decide +kernel
theorem dX12_seemed_46 : decode cX12_seemed 46 = .ok (.iload_n 2, 1) := by decide +kernel
theorem dX12_seemed_47 : decode cX12_seemed 47 = .ok (.iadd, 1) := by decide +kernel
theorem dX12_seemed_48 : decode cX12_seemed 48 = .ok (.invokevirtual 344, 3) := by decide +kernel
theorem dX12_seemed_51 : decode cX12_seemed 51 = .ok (.i2l, 1) := by decide +kernel
theorem dX12_seemed_52 : decode cX12_seemed 52 = .ok (.goto 6, 3) := by decide +kernel
theorem dX12_seemed_55 : decode cX12_seemed 55 = .ok (.ldc2_w 81, 3) := by decide +kernel
theorem dX12_seemed_58 : decode cX12_seemed 58 = .ok (.lreturn, 1) := by decide +kernel
theorem dX12_deep_0 : decode cX12_deep 0 = .ok (.aload_n 0, 1) := by decide +kernel
theorem dX12_deep_1 : decode cX12_deep 1 = .ok (.iconst 0, 1) := by decide +kernel
theorem dX12_deep_2 : decode cX12_deep 2 = .ok (.putfield 60, 3) := by decide +kernel
theorem dX12_deep_5 : decode cX12_deep 5 = .ok (.aload_n 0, 1) := by decide +kernel
theorem dX12_deep_6 : decode cX12_deep 6 = .ok (.getfield 238, 3) := by decide +kernel
theorem dX12_deep_9 : decode cX12_deep 9 = .ok (.ifCond .ne 7, 3) := by decide +kernel
theorem dX12_deep_12 : decode cX12_deep 12 = .ok (.ldc2_w 259, 3) := by decide +kernel
theorem dX12_deep_15 : decode cX12_deep 15 = .ok (.lreturn, 1) := by decide +kernel
theorem dX12_deep_16 : decode cX12_deep 16 = .ok (.iload_n 1, 1) := by decide +kernel
theorem dX12_deep_17 : decode cX12_deep 17 = .ok (.i2l, 1) := by decide +kernel
theorem dX12_deep_18 : decode cX12_deep 18 = .ok (.lconst 0, 1) := by decide +kernel
theorem dX12_deep_19 : decode cX12_deep 19 = .ok (.ldc2_w 337, 3) := by decide +kernel
theorem dX12_deep_22 : decode cX12_deep 22 = .ok (.invokestatic 71, 3) := by decide +kernel
theorem dX12_deep_25 : decode cX12_deep 25 = .ok (.ifCond .ne 7, 3) := by decide +kernel
theorem dX12_deep_28 : decode cX12_deep 28 = .ok (.ldc2_w 81, 3) := by decide +kernel
theorem dX12_deep_31 : decode cX12_deep 31 = .ok (.lreturn, 1) := by decide +kernel
theorem dX12_deep_32 : decode cX12_deep 32 = .ok (.iload_n 1, 1) := by decide +kernel
theorem dX12_deep_33 : decode cX12_deep 33 = .ok (.aload_n 0, 1) := by decide +kernel
theorem dX12_deep_34 : decode cX12_deep 34 = .ok (.getfield 19, 3) := by decide +kernel
theorem dX12_deep_37 : decode cX12_deep 37 = .ok (.bipush 11, 2) := by decide +kernel
theorem dX12_deep_39 : decode cX12_deep 39 = .ok (.iaload, 1) := by decide +kernel
theorem dX12_deep_40 : decode cX12_deep 40 = .ok (.if_icmp .lt 7, 3) := by decide +kernel
theorem dX12_deep_43 : decode cX12_deep 43 = .ok (.lconst 0, 1) := by decide +kernel
theorem dX12_deep_44 : decode cX12_deep 44 = .ok (.goto 47, 3) := by decide +kernel
theorem dX12_deep_47 : decode cX12_deep 47 = .ok (.aload_n 0, 1) := by decide +kernel
theorem dX12_deep_48 : decode cX12_deep 48 = .ok (.getfield 19, 3) := by decide +kernel
theorem dX12_deep_51 : decode cX12_deep 51 = .ok (.bipush 9, 2) := by decide +kernel
theorem dX12_deep_53 : decode cX12_deep 53 = .ok (.iaload, 1) := by decide +kernel
theorem dX12_deep_54 : decode cX12_deep 54 = .ok (.ifCond .ne 9, 3) := by decide +kernel
theorem dX12_deep_57 : decode cX12_deep 57 = .ok (.ldc2_w 325, 3) := by decide +kernel
theorem dX12_deep_60 : decode cX12_deep 60 = .ok (.goto 31, 3) := by decide +kernel
theorem dX12_deep_63 : decode cX12_deep 63 = .ok (.aload_n 0, 1) := by decide +kernel
theorem dX12_deep_64 : decode cX12_deep 64 = .ok (.getfield 19, 3) := by decide +kernel
theorem dX12_deep_67 : decode cX12_deep 67 = .ok (.bipush 11, 2) := by decide +kernel
theorem dX12_deep_69 : decode cX12_deep 69 = .ok (.iaload, 1) := by decide +kernel
theorem dX12_deep_70 : decode cX12_deep 70 = .ok (.iload_n 1, 1) := by decide +kernel
theorem dX12_deep_71 : decode cX12_deep 71 = .ok (.isub, 1) := by decide +kernel
theorem dX12_deep_72 : decode cX12_deep 72 = .ok (.aload_n 0, 1) := by decide +kernel
theorem dX12_deep_73 : decode cX12_deep 73 = .ok (.getfield 19, 3) := by decide +kernel
theorem dX12_deep_76 : decode cX12_deep 76 = .ok (.bipush 9, 2) := by decide +kernel
theorem dX12_deep_78 : decode cX12_deep 78 = .ok (.iaload, 1) := by decide +kernel
theorem dX12_deep_79 : decode cX12_deep 79 = .ok (.iadd, 1) := by decide +kernel
theorem dX12_deep_80 : decode cX12_deep 80 = .ok (.iconst 1, 1) := by decide +kernel
theorem dX12_deep_81 : decode cX12_deep 81 = .ok (.isub, 1) := by decide +kernel
theorem dX12_deep_82 : decode cX12_deep 82 = .ok (.aload_n 0, 1) := by decide +kernel
theorem dX12_deep_83 : decode cX12_deep 83 = .ok (.getfield 19, 3) := by decide +kernel
theorem dX12_deep_86 : decode cX12_deep 86 = .ok (.bipush 9, 2) := by decide +kernel
theorem dX12_deep_88 : decode cX12_deep 88 = .ok (.iaload, 1) := by decide +kernel
theorem dX12_deep_89 : decode cX12_deep 89 = .ok (.idiv, 1) := by decide +kernel
theorem dX12_deep_90 : decode cX12_deep 90 = .ok (.i2l, 1) := by decide +kernel
theorem dX12_deep_91 : decode cX12_deep 91 = .ok (.lreturn, 1) := by decide +kernel
theorem dX12_was_0 : decode cX12_was 0 = .ok (.aload_n 0, 1) := by decide +kernel
theorem dX12_was_1 : decode cX12_was 1 = .ok (.iconst 0, 1) := by decide +kernel
theorem dX12_was_2 : decode cX12_was 2 = .ok (.putfield 60, 3) := by decide +kernel
theorem dX12_was_5 : decode cX12_was 5 = .ok (.aload_n 0, 1) := by decide +kernel
theorem dX12_was_6 : decode cX12_was 6 = .ok (.getfield 238, 3) := by decide +kernel
theorem dX12_was_9 : decode cX12_was 9 = .ok (.ifCond .ne 7, 3) := by decide +kernel
theorem dX12_was_12 : decode cX12_was 12 = .ok (.ldc2_w 259, 3) := by decide +kernel
theorem dX12_was_15 : decode cX12_was 15 = .ok (.lreturn, 1) := by decide +kernel
theorem dX12_was_16 : decode cX12_was 16 = .ok (.iload_n 1, 1) := by decide +kernel
theorem dX12_was_17 : decode cX12_was 17 = .ok (.iload_n 2, 1) := by decide +kernel
theorem dX12_was_18 : decode cX12_was 18 = .ok (.invokestatic 341, 3) := by decide +kernel
theorem dX12_was_21 : decode cX12_was 21 = .ok (.ifCond .eq 26, 3) := by decide +kernel
theorem dX12_was_24 : decode cX12_was 24 = .ok (.iload_n 3, 1) := by decide +kernel
theorem dX12_was_25 : decode cX12_was 25 = .ok (.i2l, 1) := by decide +kernel
theorem dX12_was_26 : decode cX12_was 26 = .ok (.lconst 0, 1) := by decide +kernel
theorem dX12_was_27 : decode cX12_was 27 = .ok (.ldc2_w 333, 3) := by decide +kernel
theorem dX12_was_30 : decode cX12_was 30 = .ok (.invokestatic 71, 3) := by decide +kernel
theorem dX12_was_33 : decode cX12_was 33 = .ok (.ifCond .eq 14, 3) := by decide +kernel
theorem dX12_was_36 : decode cX12_was 36 = .ok (.iload 4, 2) := by decide +kernel
theorem dX12_was_38 : decode cX12_was 38 = .ok (.i2l, 1) := by decide +kernel
theorem dX12_was_39 : decode cX12_was 39 = .ok (.lconst 0, 1) := by decide +kernel
theorem dX12_was_40 : decode cX12_was 40 = .ok (.lconst 1, 1) := by decide +kernel
theorem dX12_was_41 : decode cX12_was 41 = .ok (.invokestatic 71, 3) := by decide +kernel
theorem dX12_was_44 : decode cX12_was 44 = .ok (.ifCond .ne 7, 3) := by decide +kernel
theorem dX12_was_47 : decode cX12_was 47 = .ok (.ldc2_w 81, 3) := by decide +kernel
theorem dX12_was_50 : decode cX12_was 50 = .ok (.lreturn, 1) := by decide +kernel
theorem dX12_was_51 : decode cX12_was 51 = .ok (.aload_n 0, 1) := by decide +kernel
theorem dX12_was_52 : decode cX12_was 52 = .ok (.iload 4, 2) := by decide +kernel
theorem dX12_was_54 : decode cX12_was 54 = .ok (.ifCond .ne 9, 3) := by decide +kernel
theorem dX12_was_57 : decode cX12_was 57 = .ok (.iload_n 1, 1) := by decide +kernel
theorem dX12_was_58 : decode cX12_was 58 = .ok (.iload_n 2, 1) := by decide +kernel
theorem dX12_was_59 : decode cX12_was 59 = .ok (.isub, 1) := by decide +kernel
theorem dX12_was_60 : decode cX12_was 60 = .ok (.goto 6, 3) := by decide +kernel
theorem dX12_was_63 : decode cX12_was 63 = .ok (.iload_n 1, 1) := by decide +kernel
theorem dX12_was_64 : decode cX12_was 64 = .ok (.iload_n 2, 1) := by decide +kernel
theorem dX12_was_65 : decode cX12_was 65 = .ok (.iadd, 1) := by decide +kernel
theorem dX12_was_66 : decode cX12_was 66 = .ok (.invokevirtual 344, 3) := by decide +kernel
theorem dX12_was_69 : decode cX12_was 69 = .ok (.iload_n 3, 1) := by decide +kernel
theorem dX12_was_70 : decode cX12_was 70 = .ok (.aload_n 0, 1) := by decide +kernel
theorem dX12_was_71 : decode cX12_was 71 = .ok (.getfield 19, 3) := by decide +kernel
theorem dX12_was_74 : decode cX12_was 74 = .ok (.bipush 9, 2) := by decide +kernel
theorem dX12_was_76 : decode cX12_was 76 = .ok (.iaload, 1) := by decide +kernel
theorem dX12_was_77 : decode cX12_was 77 = .ok (.imul, 1) := by decide +kernel
theorem dX12_was_78 : decode cX12_was 78 = .ok (.isub, 1) := by decide +kernel
theorem dX12_was_79 : decode cX12_was 79 = .ok (.istore 5, 2) := by decide +kernel
theorem dX12_was_81 : decode cX12_was 81 = .ok (.iload 5, 2) := by decide +kernel
theorem dX12_was_83 : decode cX12_was 83 = .ok (.ifCond .ge 7, 3) := by decide +kernel
theorem dX12_was_86 : decode cX12_was 86 = .ok (.lconst 0, 1) := by decide +kernel
theorem dX12_was_87 : decode cX12_was 87 = .ok (.goto 6, 3) := by decide +kernel
theorem dX12_was_90 : decode cX12_was 90 = .ok (.iload 5, 2) := by decide +kernel
theorem dX12_was_92 : decode cX12_was 92 = .ok (.i2l, 1) := by decide +kernel
theorem dX12_was_93 : decode cX12_was 93 = .ok (.lreturn, 1) := by decide +kernel
theorem dX12_bang_0 : decode cX12_bang 0 = .ok (.aload_n 0, 1) := by decide +kernel
theorem dX12_bang_1 : decode cX12_bang 1 = .ok (.iconst 0, 1) := by decide +kernel
theorem dX12_bang_2 : decode cX12_bang 2 = .ok (.putfield 60, 3) := by decide +kernel
theorem dX12_bang_5 : decode cX12_bang 5 = .ok (.iload_n 1, 1) := by decide +kernel
theorem dX12_bang_6 : decode cX12_bang 6 = .ok (.i2l, 1) := by decide +kernel
theorem dX12_bang_7 : decode cX12_bang 7 = .ok (.lconst 0, 1) := by decide +kernel
theorem dX12_bang_8 : decode cX12_bang 8 = .ok (.ldc2_w 333, 3) := by decide +kernel
theorem dX12_bang_11 : decode cX12_bang 11 = .ok (.invokestatic 71, 3) := by decide +kernel
theorem dX12_bang_14 : decode cX12_bang 14 = .ok (.ifCond .eq 53, 3) := by decide +kernel
theorem dX12_bang_17 : decode cX12_bang 17 = .ok (.iload_n 2, 1) := by decide +kernel
theorem dX12_bang_18 : decode cX12_bang 18 = .ok (.i2l, 1) := by decide +kernel
theorem dX12_bang_19 : decode cX12_bang 19 = .ok (.lconst 0, 1) := by decide +kernel
theorem dX12_bang_20 : decode cX12_bang 20 = .ok (.ldc2_w 339, 3) := by decide +kernel
theorem dX12_bang_23 : decode cX12_bang 23 = .ok (.invokestatic 71, 3) := by decide +kernel
theorem dX12_bang_26 : decode cX12_bang 26 = .ok (.ifCond .eq 41, 3) := by decide +kernel
theorem dX12_bang_29 : decode cX12_bang 29 = .ok (.iload_n 3, 1) := by decide +kernel
theorem dX12_bang_30 : decode cX12_bang 30 = .ok (.i2l, 1) := by decide +kernel
theorem dX12_bang_31 : decode cX12_bang 31 = .ok (.lconst 1, 1) := by decide +kernel
theorem dX12_bang_32 : decode cX12_bang 32 = .ok (.ldc2_w 329, 3) := by decide +kernel
theorem dX12_bang_35 : decode cX12_bang 35 = .ok (.invokestatic 71, 3) := by decide +kernel
theorem dX12_bang_38 : decode cX12_bang 38 = .ok (.ifCond .eq 29, 3) := by decide +kernel
theorem dX12_bang_41 : decode cX12_bang 41 = .ok (.iload 4, 2) := by decide +kernel
theorem dX12_bang_43 : decode cX12_bang 43 = .ok (.i2l, 1) := by decide +kernel
theorem dX12_bang_44 : decode cX12_bang 44 = .ok (.lconst 0, 1) := by decide +kernel
theorem dX12_bang_45 : decode cX12_bang 45 = .ok (.ldc2_w 329, 3) := by decide +kernel
theorem dX12_bang_48 : decode cX12_bang 48 = .ok (.invokestatic 71, 3) := by decide +kernel
theorem dX12_bang_51 : decode cX12_bang 51 = .ok (.ifCond .eq 16, 3) := by decide +kernel
theorem dX12_bang_54 : decode cX12_bang 54 = .ok (.iload 5, 2) := by decide +kernel
theorem dX12_bang_56 : decode cX12_bang 56 = .ok (.i2l, 1) := by decide +kernel
theorem dX12_bang_57 : decode cX12_bang 57 = .ok (.lconst 0, 1) := by decide +kernel
theorem dX12_bang_58 : decode cX12_bang 58 = .ok (.ldc2_w 79, 3) := by decide +kernel
theorem dX12_bang_61 : decode cX12_bang 61 = .ok (.invokestatic 71, 3) := by decide +kernel
theorem dX12_bang_64 : decode cX12_bang 64 = .ok (.ifCond .ne 7, 3) := by decide +kernel
theorem dX12_bang_67 : decode cX12_bang 67 = .ok (.ldc2_w 81, 3) := by decide +kernel
theorem dX12_bang_70 : decode cX12_bang 70 = .ok (.lreturn, 1) := by decide +kernel
theorem dX12_bang_71 : decode cX12_bang 71 = .ok (.iload_n 1, 1) := by decide +kernel
theorem dX12_bang_72 : decode cX12_bang 72 = .ok (.iload_n 2, 1) := by decide +kernel
theorem dX12_bang_73 : decode cX12_bang 73 = .ok (.imul, 1) := by decide +kernel
theorem dX12_bang_74 : decode cX12_bang 74 = .ok (.bipush 10, 2) := by decide +kernel
theorem dX12_bang_76 : decode cX12_bang 76 = .ok (.imul, 1) := by decide +kernel
theorem dX12_bang_77 : decode cX12_bang 77 = .ok (.iload_n 3, 1) := by decide +kernel
theorem dX12_bang_78 : decode cX12_bang 78 = .ok (.idiv, 1) := by decide +kernel
theorem dX12_bang_79 : decode cX12_bang 79 = .ok (.istore 6, 2) := by decide +kernel
theorem dX12_bang_81 : decode cX12_bang 81 = .ok (.iload 6, 2) := by decide +kernel
theorem dX12_bang_83 : decode cX12_bang 83 = .ok (.i2l, 1) := by decide +kernel
theorem dX12_bang_84 : decode cX12_bang 84 = .ok (.ldc2_w 347, 3) := by decide +kernel
theorem dX12_bang_87 : decode cX12_bang 87 = .ok (.ldc2_w 349, 3) := by decide +kernel
theorem dX12_bang_90 : decode cX12_bang 90 = .ok (.invokestatic 71, 3) := by decide +kernel
theorem dX12_bang_93 : decode cX12_bang 93 = .ok (.istore 7, 2) := by decide +kernel
theorem dX12_bang_95 : decode cX12_bang 95 = .ok (.iload 5, 2) := by decide +kernel
theorem dX12_bang_97 : decode cX12_bang 97 = .ok (.ifCond .ne 9, 3) := by decide +kernel
theorem dX12_bang_100 : decode cX12_bang 100 = .ok (.iload 6, 2) := by decide +kernel
theorem dX12_bang_102 : decode cX12_bang 102 = .ok (.i2l, 1) := by decide +kernel
theorem dX12_bang_103 : decode cX12_bang 103 = .ok (.goto 27, 3) := by decide +kernel
theorem dX12_bang_106 : decode cX12_bang 106 = .ok (.iload 7, 2) := by decide +kernel
theorem dX12_bang_108 : decode cX12_bang 108 = .ok (.ifCond .eq 21, 3) := by decide +kernel
theorem dX12_bang_111 : decode cX12_bang 111 = .ok (.iload 5, 2) := by decide +kernel
theorem dX12_bang_113 : decode cX12_bang 113 = .ok (.iconst 1, 1) := by decide +kernel
theorem dX12_bang_114 : decode cX12_bang 114 = .ok (.if_icmp .eq 11, 3) := by decide +kernel
theorem dX12_bang_117 : decode cX12_bang 117 = .ok (.iload_n 1, 1) := by decide +kernel
theorem dX12_bang_118 : decode cX12_bang 118 = .ok (.iload_n 2, 1) := by decide +kernel
theorem dX12_bang_119 : decode cX12_bang 119 = .ok (.imul, 1) := by decide +kernel
theorem dX12_bang_120 : decode cX12_bang 120 = .ok (.iload 4, 2) := by decide +kernel
theorem dX12_bang_122 : decode cX12_bang 122 = .ok (.if_icmp .gt 7, 3) := by decide +kernel
theorem dX12_bang_125 : decode cX12_bang 125 = .ok (.lconst 1, 1) := by decide +kernel
theorem dX12_bang_126 : decode cX12_bang 126 = .ok (.goto 4, 3) := by decide +kernel
theorem dX12_bang_129 : decode cX12_bang 129 = .ok (.lconst 0, 1) := by decide +kernel
theorem dX12_bang_130 : decode cX12_bang 130 = .ok (.lreturn, 1) := by decide +kernel
theorem dX12_leaving_0 : decode cX12_leaving 0 = .ok (.iconst 0, 1) := by decide +kernel
theorem dX12_leaving_1 : decode cX12_leaving 1 = .ok (.istore_n 3, 1) := by decide +kernel
theorem dX12_leaving_2 : decode cX12_leaving 2 = .ok (.iconst (-1), 1) := by decide +kernel
theorem dX12_leaving_3 : decode cX12_leaving 3 = .ok (.istore 4, 2) := by decide +kernel
theorem dX12_leaving_5 : decode cX12_leaving 5 = .ok (.iconst 0, 1) := by decide +kernel
theorem dX12_leaving_6 : decode cX12_leaving 6 = .ok (.istore 5, 2) := by decide +kernel
theorem dX12_leaving_8 : decode cX12_leaving 8 = .ok (.aload_n 0, 1) := by decide +kernel
theorem dX12_leaving_9 : decode cX12_leaving 9 = .ok (.iconst (-1), 1) := by decide +kernel
theorem dX12_leaving_10 : decode cX12_leaving 10 = .ok (.putfield 351, 3) := by decide +kernel
theorem dX12_leaving_13 : decode cX12_leaving 13 = .ok (.iload_n 3, 1) := by decide +kernel
theorem dX12_leaving_14 : decode cX12_leaving 14 = .ok (.iload 4, 2) := by decide +kernel
theorem dX12_leaving_16 : decode cX12_leaving 16 = .ok (.if_icmp .eq 100, 3) := by decide +kernel
theorem dX12_leaving_19 : decode cX12_leaving 19 = .ok (.iload_n 3, 1) := by decide +kernel
theorem dX12_leaving_20 : decode cX12_leaving 20 = .ok (.istore 4, 2) := by decide +kernel
theorem dX12_leaving_22 : decode cX12_leaving 22 = .ok (.aload_n 0, 1) := by decide +kernel
theorem dX12_leaving_23 : decode cX12_leaving 23 = .ok (.dup, 1) := by decide +kernel
theorem dX12_leaving_24 : decode cX12_leaving 24 = .ok (.getfield 351, 3) := by decide +kernel
theorem dX12_leaving_27 : decode cX12_leaving 27 = .ok (.iconst 1, 1) := by decide +kernel
theorem dX12_leaving_28 : decode cX12_leaving 28 = .ok (.iadd, 1) := by decide +kernel
theorem dX12_leaving_29 : decode cX12_leaving 29 = .ok (.putfield 351, 3) := by decide +kernel
theorem dX12_leaving_32 : decode cX12_leaving 32 = .ok (.iload 5, 2) := by decide +kernel
theorem dX12_leaving_34 : decode cX12_leaving 34 = .ok (.istore 6, 2) := by decide +kernel
theorem dX12_leaving_36 : decode cX12_leaving 36 = .ok (.iconst 0, 1) := by decide +kernel
theorem dX12_leaving_37 : decode cX12_leaving 37 = .ok (.istore 7, 2) := by decide +kernel
theorem dX12_leaving_39 : decode cX12_leaving 39 = .ok (.iload 7, 2) := by decide +kernel
theorem dX12_leaving_41 : decode cX12_leaving 41 = .ok (.aload_n 0, 1) := by decide +kernel
theorem dX12_leaving_42 : decode cX12_leaving 42 = .ok (.getfield 19, 3) := by decide +kernel
theorem dX12_leaving_45 : decode cX12_leaving 45 = .ok (.iconst 3, 1) := by decide +kernel
theorem dX12_leaving_46 : decode cX12_leaving 46 = .ok (.iaload, 1) := by decide +kernel
theorem dX12_leaving_47 : decode cX12_leaving 47 = .ok (.if_icmp .ge 66, 3) := by decide +kernel
theorem dX12_leaving_50 : decode cX12_leaving 50 = .ok (.iload 4, 2) := by decide +kernel
theorem dX12_leaving_52 : decode cX12_leaving 52 = .ok (.iload 7, 2) := by decide +kernel
theorem dX12_leaving_54 : decode cX12_leaving 54 = .ok (.ishr, 1) := by decide +kernel
theorem dX12_leaving_55 : decode cX12_leaving 55 = .ok (.iconst 1, 1) := by decide +kernel
theorem dX12_leaving_56 : decode cX12_leaving 56 = .ok (.iand, 1) := by decide +kernel
theorem dX12_leaving_57 : decode cX12_leaving 57 = .ok (.ifCond .ne 50, 3) := by decide +kernel
theorem dX12_leaving_60 : decode cX12_leaving 60 = .ok (.aload_n 0, 1) := by decide +kernel
theorem dX12_leaving_61 : decode cX12_leaving 61 = .ok (.getfield 19, 3) := by decide +kernel
theorem dX12_leaving_64 : decode cX12_leaving 64 = .ok (.bipush 20, 2) := by decide +kernel
theorem dX12_leaving_66 : decode cX12_leaving 66 = .ok (.iconst 2, 1) := by decide +kernel
theorem dX12_leaving_67 : decode cX12_leaving 67 = .ok (.iload 7, 2) := by decide +kernel
theorem dX12_leaving_69 : decode cX12_leaving 69 = .ok (.imul, 1) := by decide +kernel
theorem dX12_leaving_70 : decode cX12_leaving 70 = .ok (.iadd, 1) := by decide +kernel
theorem dX12_leaving_71 : decode cX12_leaving 71 = .ok (.iaload, 1) := by decide +kernel
theorem dX12_leaving_72 : decode cX12_leaving 72 = .ok (.iload_n 1, 1) := by decide +kernel
theorem dX12_leaving_73 : decode cX12_leaving 73 = .ok (.if_icmp .le 24, 3) := by decide +kernel
theorem dX12_leaving_76 : decode cX12_leaving 76 = .ok (.aload_n 0, 1) := by decide +kernel
theorem dX12_leaving_77 : decode cX12_leaving 77 = .ok (.getfield 19, 3) := by decide +kernel
theorem dX12_leaving_80 : decode cX12_leaving 80 = .ok (.bipush 20, 2) := by decide +kernel
theorem dX12_leaving_82 : decode cX12_leaving 82 = .ok (.iconst 2, 1) := by decide +kernel
theorem dX12_leaving_83 : decode cX12_leaving 83 = .ok (.iload 7, 2) := by decide +kernel
theorem dX12_leaving_85 : decode cX12_leaving 85 = .ok (.imul, 1) := by decide +kernel
theorem dX12_leaving_86 : decode cX12_leaving 86 = .ok (.iadd, 1) := by decide +kernel
theorem dX12_leaving_87 : decode cX12_leaving 87 = .ok (.iconst 1, 1) := by decide +kernel
theorem dX12_leaving_88 : decode cX12_leaving 88 = .ok (.iadd, 1) := by decide +kernel
theorem dX12_leaving_89 : decode cX12_leaving 89 = .ok (.iaload, 1) := by decide +kernel
theorem dX12_leaving_90 : decode cX12_leaving 90 = .ok (.iload_n 2, 1) := by decide +kernel
theorem dX12_leaving_91 : decode cX12_leaving 91 = .ok (.iload 6, 2) := by decide +kernel
theorem dX12_leaving_93 : decode cX12_leaving 93 = .ok (.iadd, 1) := by decide +kernel
theorem dX12_leaving_94 : decode cX12_leaving 94 = .ok (.if_icmp .gt 13, 3) := by decide +kernel
theorem dX12_leaving_97 : decode cX12_leaving 97 = .ok (.iload_n 3, 1) := by decide +kernel
theorem dX12_leaving_98 : decode cX12_leaving 98 = .ok (.iconst 1, 1) := by decide +kernel
theorem dX12_leaving_99 : decode cX12_leaving 99 = .ok (.iload 7, 2) := by decide +kernel
theorem dX12_leaving_101 : decode cX12_leaving 101 = .ok (.ishl, 1) := by decide +kernel
theorem dX12_leaving_102 : decode cX12_leaving 102 = .ok (.ior, 1) := by decide +kernel
theorem dX12_leaving_103 : decode cX12_leaving 103 = .ok (.istore_n 3, 1) := by decide +kernel
theorem dX12_leaving_104 : decode cX12_leaving 104 = .ok (.iinc 5 1, 3) := by decide +kernel
theorem dX12_leaving_107 : decode cX12_leaving 107 = .ok (.iinc 7 1, 3) := by decide +kernel
theorem dX12_leaving_110 : decode cX12_leaving 110 = .ok (.goto (-71), 3) := by decide +kernel
theorem dX12_leaving_113 : decode cX12_leaving 113 = .ok (.goto (-100), 3) := by decide +kernel
theorem dX12_leaving_116 : decode cX12_leaving 116 = .ok (.iload_n 3, 1) := by decide +kernel
theorem dX12_leaving_117 : decode cX12_leaving 117 = .ok (.ireturn, 1) := by decide +kernel
theorem dX12_leave_0 : decode cX12_leave 0 = .ok (.aload_n 0, 1) := by decide +kernel
theorem dX12_leave_1 : decode cX12_leave 1 = .ok (.iconst 0, 1) := by decide +kernel
theorem dX12_leave_2 : decode cX12_leave 2 = .ok (.putfield 60, 3) := by decide +kernel
theorem dX12_leave_5 : decode cX12_leave 5 = .ok (.aload_n 0, 1) := by decide +kernel
theorem dX12_leave_6 : decode cX12_leave 6 = .ok (.getfield 238, 3) := by decide +kernel
theorem dX12_leave_9 : decode cX12_leave 9 = .ok (.ifCond .ne 7, 3) := by decide +kernel
theorem dX12_leave_12 : decode cX12_leave 12 = .ok (.ldc2_w 259, 3) := by decide +kernel
theorem dX12_leave_15 : decode cX12_leave 15 = .ok (.lreturn, 1) := by decide +kernel
theorem dX12_leave_16 : decode cX12_leave 16 = .ok (.iload_n 1, 1) := by decide +kernel
theorem dX12_leave_17 : decode cX12_leave 17 = .ok (.i2l, 1) := by decide +kernel
theorem dX12_leave_18 : decode cX12_leave 18 = .ok (.lconst 0, 1) := by decide +kernel
theorem dX12_leave_19 : decode cX12_leave 19 = .ok (.ldc2_w 337, 3) := by decide +kernel
theorem dX12_leave_22 : decode cX12_leave 22 = .ok (.invokestatic 71, 3) := by decide +kernel
theorem dX12_leave_25 : decode cX12_leave 25 = .ok (.ifCond .eq 25, 3) := by decide +kernel
theorem dX12_leave_28 : decode cX12_leave 28 = .ok (.iload_n 2, 1) := by decide +kernel
theorem dX12_leave_29 : decode cX12_leave 29 = .ok (.i2l, 1) := by decide +kernel
theorem dX12_leave_30 : decode cX12_leave 30 = .ok (.lconst 0, 1) := by decide +kernel
theorem dX12_leave_31 : decode cX12_leave 31 = .ok (.ldc2_w 339, 3) := by decide +kernel
theorem dX12_leave_34 : decode cX12_leave 34 = .ok (.invokestatic 71, 3) := by decide +kernel
theorem dX12_leave_37 : decode cX12_leave 37 = .ok (.ifCond .eq 13, 3) := by decide +kernel
theorem dX12_leave_40 : decode cX12_leave 40 = .ok (.iload_n 3, 1) := by decide +kernel
theorem dX12_leave_41 : decode cX12_leave 41 = .ok (.i2l, 1) := by decide +kernel
theorem dX12_leave_42 : decode cX12_leave 42 = .ok (.lconst 0, 1) := by decide +kernel
theorem dX12_leave_43 : decode cX12_leave 43 = .ok (.lconst 1, 1) := by decide +kernel
theorem dX12_leave_44 : decode cX12_leave 44 = .ok (.invokestatic 71, 3) := by decide +kernel
theorem dX12_leave_47 : decode cX12_leave 47 = .ok (.ifCond .ne 7, 3) := by decide +kernel
theorem dX12_leave_50 : decode cX12_leave 50 = .ok (.ldc2_w 81, 3) := by decide +kernel
theorem dX12_leave_53 : decode cX12_leave 53 = .ok (.lreturn, 1) := by decide +kernel
theorem dX12_leave_54 : decode cX12_leave 54 = .ok (.aload_n 0, 1) := by decide +kernel
theorem dX12_leave_55 : decode cX12_leave 55 = .ok (.iload_n 1, 1) := by decide +kernel
theorem dX12_leave_56 : decode cX12_leave 56 = .ok (.iload_n 2, 1) := by decide +kernel
theorem dX12_leave_57 : decode cX12_leave 57 = .ok (.invokevirtual 354, 3) := by decide +kernel
theorem dX12_leave_60 : decode cX12_leave 60 = .ok (.istore 4, 2) := by decide +kernel
theorem dX12_leave_62 : decode cX12_leave 62 = .ok (.iload_n 3, 1) := by decide +kernel
theorem dX12_leave_63 : decode cX12_leave 63 = .ok (.ifCond .ne 9, 3) := by decide +kernel
theorem dX12_leave_66 : decode cX12_leave 66 = .ok (.iload 4, 2) := by decide +kernel
theorem dX12_leave_68 : decode cX12_leave 68 = .ok (.i2l, 1) := by decide +kernel
theorem dX12_leave_69 : decode cX12_leave 69 = .ok (.goto 8, 3) := by decide +kernel
theorem dX12_leave_72 : decode cX12_leave 72 = .ok (.aload_n 0, 1) := by decide +kernel
theorem dX12_leave_73 : decode cX12_leave 73 = .ok (.getfield 351, 3) := by decide +kernel
theorem dX12_leave_76 : decode cX12_leave 76 = .ok (.i2l, 1) := by decide +kernel
theorem dX12_leave_77 : decode cX12_leave 77 = .ok (.lreturn, 1) := by decide +kernel
theorem dX12_leastWater_0 : decode cX12_leastWater 0 = .ok (.aload_n 0, 1) := by decide +kernel
theorem dX12_leastWater_1 : decode cX12_leastWater 1 = .ok (.iconst 0, 1) := by decide +kernel
theorem dX12_leastWater_2 : decode cX12_leastWater 2 = .ok (.putfield 60, 3) := by decide +kernel
theorem dX12_leastWater_5 : decode cX12_leastWater 5 = .ok (.aload_n 0, 1) := by decide +kernel
theorem dX12_leastWater_6 : decode cX12_leastWater 6 = .ok (.getfield 238, 3) := by decide +kernel
theorem dX12_leastWater_9 : decode cX12_leastWater 9 = .ok (.ifCond .ne 7, 3) := by decide +kernel
theorem dX12_leastWater_12 : decode cX12_leastWater 12 = .ok (.ldc2_w 259, 3) := by decide +kernel
theorem dX12_leastWater_15 : decode cX12_leastWater 15 = .ok (.lreturn, 1) := by decide +kernel
theorem dX12_leastWater_16 : decode cX12_leastWater 16 = .ok (.iload_n 1, 1) := by decide +kernel
theorem dX12_leastWater_17 : decode cX12_leastWater 17 = .ok (.i2l, 1) := by decide +kernel
theorem dX12_leastWater_18 : decode cX12_leastWater 18 = .ok (.lconst 0, 1) := by decide +kernel
theorem dX12_leastWater_19 : decode cX12_leastWater 19 = .ok (.ldc2_w 339, 3) := by decide +kernel
theorem dX12_leastWater_22 : decode cX12_leastWater 22 = .ok (.invokestatic 71, 3) := by decide +kernel
theorem dX12_leastWater_25 : decode cX12_leastWater 25 = .ok (.ifCond .ne 7, 3) := by decide +kernel
theorem dX12_leastWater_28 : decode cX12_leastWater 28 = .ok (.ldc2_w 81, 3) := by decide +kernel
theorem dX12_leastWater_31 : decode cX12_leastWater 31 = .ok (.lreturn, 1) := by decide +kernel
theorem dX12_leastWater_32 : decode cX12_leastWater 32 = .ok (.ldc 99, 2) := by decide +kernel
theorem dX12_leastWater_34 : decode cX12_leastWater 34 = .ok (.istore_n 2, 1) := by decide +kernel
theorem dX12_leastWater_35 : decode cX12_leastWater 35 = .ok (.sipush 200, 3) := by decide +kernel
theorem dX12_leastWater_38 : decode cX12_leastWater 38 = .ok (.istore_n 3, 1) := by decide +kernel
theorem dX12_leastWater_39 : decode cX12_leastWater 39 = .ok (.iload_n 3, 1) := by decide +kernel
theorem dX12_leastWater_40 : decode cX12_leastWater 40 = .ok (.ifCond .le 43, 3) := by decide +kernel
theorem dX12_leastWater_43 : decode cX12_leastWater 43 = .ok (.aload_n 0, 1) := by decide +kernel
theorem dX12_leastWater_44 : decode cX12_leastWater 44 = .ok (.getfield 19, 3) := by decide +kernel
theorem dX12_leastWater_47 : decode cX12_leastWater 47 = .ok (.iconst 3, 1) := by decide +kernel
theorem dX12_leastWater_48 : decode cX12_leastWater 48 = .ok (.iaload, 1) := by decide +kernel
theorem dX12_leastWater_49 : decode cX12_leastWater 49 = .ok (.ifCond .le 34, 3) := by decide +kernel
theorem dX12_leastWater_52 : decode cX12_leastWater 52 = .ok (.aload_n 0, 1) := by decide +kernel
theorem dX12_leastWater_53 : decode cX12_leastWater 53 = .ok (.iload_n 3, 1) := by decide +kernel
theorem dX12_leastWater_54 : decode cX12_leastWater 54 = .ok (.iload_n 1, 1) := by decide +kernel
theorem dX12_leastWater_55 : decode cX12_leastWater 55 = .ok (.invokevirtual 354, 3) := by decide +kernel
theorem dX12_leastWater_58 : decode cX12_leastWater 58 = .ok (.iconst 1, 1) := by decide +kernel
theorem dX12_leastWater_59 : decode cX12_leastWater 59 = .ok (.aload_n 0, 1) := by decide +kernel
theorem dX12_leastWater_60 : decode cX12_leastWater 60 = .ok (.getfield 19, 3) := by decide +kernel
theorem dX12_leastWater_63 : decode cX12_leastWater 63 = .ok (.iconst 3, 1) := by decide +kernel
theorem dX12_leastWater_64 : decode cX12_leastWater 64 = .ok (.iaload, 1) := by decide +kernel
theorem dX12_leastWater_65 : decode cX12_leastWater 65 = .ok (.ishl, 1) := by decide +kernel
theorem dX12_leastWater_66 : decode cX12_leastWater 66 = .ok (.iconst 1, 1) := by decide +kernel
theorem dX12_leastWater_67 : decode cX12_leastWater 67 = .ok (.isub, 1) := by decide +kernel
theorem dX12_leastWater_68 : decode cX12_leastWater 68 = .ok (.if_icmp .ne 7, 3) := by decide +kernel
theorem dX12_leastWater_71 : decode cX12_leastWater 71 = .ok (.iload_n 3, 1) := by decide +kernel
theorem dX12_leastWater_72 : decode cX12_leastWater 72 = .ok (.goto 4, 3) := by decide +kernel
theorem dX12_leastWater_75 : decode cX12_leastWater 75 = .ok (.iload_n 2, 1) := by decide +kernel
theorem dX12_leastWater_76 : decode cX12_leastWater 76 = .ok (.istore_n 2, 1) := by decide +kernel
theorem dX12_leastWater_77 : decode cX12_leastWater 77 = .ok (.iinc 3 (-1), 3) := by decide +kernel
theorem dX12_leastWater_80 : decode cX12_leastWater 80 = .ok (.goto (-41), 3) := by decide +kernel
theorem dX12_leastWater_83 : decode cX12_leastWater 83 = .ok (.iload_n 2, 1) := by decide +kernel
theorem dX12_leastWater_84 : decode cX12_leastWater 84 = .ok (.i2l, 1) := by decide +kernel
theorem dX12_leastWater_85 : decode cX12_leastWater 85 = .ok (.lreturn, 1) := by decide +kernel
theorem dX12_isSign_0 : decode cX12_isSign 0 = .ok (.iload_n 1, 1) := by decide +kernel
theorem dX12_isSign_1 : decode cX12_isSign 1 = .ok (.i2l, 1) := by decide +kernel
theorem dX12_isSign_2 : decode cX12_isSign 2 = .ok (.lconst 0, 1) := by decide +kernel
theorem dX12_isSign_3 : decode cX12_isSign 3 = .ok (.aload_n 0, 1) := by decide +kernel
theorem dX12_isSign_4 : decode cX12_isSign 4 = .ok (.getfield 19, 3) := by decide +kernel
theorem dX12_isSign_7 : decode cX12_isSign 7 = .ok (.iconst 4, 1) := by decide +kernel
theorem dX12_isSign_8 : decode cX12_isSign 8 = .ok (.iaload, 1) := by decide +kernel
theorem dX12_isSign_9 : decode cX12_isSign 9 = .ok (.iconst 1, 1) := by decide +kernel
theorem dX12_isSign_10 : decode cX12_isSign 10 = .ok (.isub, 1) := by decide +kernel
theorem dX12_isSign_11 : decode cX12_isSign 11 = .ok (.i2l, 1) := by decide +kernel
theorem dX12_isSign_12 : decode cX12_isSign 12 = .ok (.invokestatic 71, 3) := by decide +kernel
theorem dX12_isSign_15 : decode cX12_isSign 15 = .ok (.ireturn, 1) := by decide +kernel
theorem dX12_isStory_0 : decode cX12_isStory 0 = .ok (.iload_n 1, 1) := by decide +kernel
theorem dX12_isStory_1 : decode cX12_isStory 1 = .ok (.i2l, 1) := by decide +kernel
theorem dX12_isStory_2 : decode cX12_isStory 2 = .ok (.lconst 0, 1) := by decide +kernel
theorem dX12_isStory_3 : decode cX12_isStory 3 = .ok (.aload_n 0, 1) := by decide +kernel
theorem dX12_isStory_4 : decode cX12_isStory 4 = .ok (.getfield 19, 3) := by decide +kernel
theorem dX12_isStory_7 : decode cX12_isStory 7 = .ok (.iconst 5, 1) := by decide +kernel
theorem dX12_isStory_8 : decode cX12_isStory 8 = .ok (.iaload, 1) := by decide +kernel
theorem dX12_isStory_9 : decode cX12_isStory 9 = .ok (.iconst 1, 1) := by decide +kernel
theorem dX12_isStory_10 : decode cX12_isStory 10 = .ok (.isub, 1) := by decide +kernel
theorem dX12_isStory_11 : decode cX12_isStory 11 = .ok (.i2l, 1) := by decide +kernel
theorem dX12_isStory_12 : decode cX12_isStory 12 = .ok (.invokestatic 71, 3) := by decide +kernel
theorem dX12_isStory_15 : decode cX12_isStory 15 = .ok (.ireturn, 1) := by decide +kernel
theorem dX12_areSigns_0 : decode cX12_areSigns 0 = .ok (.iload_n 1, 1) := by decide +kernel
theorem dX12_areSigns_1 : decode cX12_areSigns 1 = .ok (.i2l, 1) := by decide +kernel
theorem dX12_areSigns_2 : decode cX12_areSigns 2 = .ok (.lconst 0, 1) := by decide +kernel
theorem dX12_areSigns_3 : decode cX12_areSigns 3 = .ok (.iconst 1, 1) := by decide +kernel
theorem dX12_areSigns_4 : decode cX12_areSigns 4 = .ok (.aload_n 0, 1) := by decide +kernel
theorem dX12_areSigns_5 : decode cX12_areSigns 5 = .ok (.getfield 19, 3) := by decide +kernel
theorem dX12_areSigns_8 : decode cX12_areSigns 8 = .ok (.iconst 4, 1) := by decide +kernel
theorem dX12_areSigns_9 : decode cX12_areSigns 9 = .ok (.iaload, 1) := by decide +kernel
theorem dX12_areSigns_10 : decode cX12_areSigns 10 = .ok (.ishl, 1) := by decide +kernel
theorem dX12_areSigns_11 : decode cX12_areSigns 11 = .ok (.iconst 1, 1) := by decide +kernel
theorem dX12_areSigns_12 : decode cX12_areSigns 12 = .ok (.isub, 1) := by decide +kernel
theorem dX12_areSigns_13 : decode cX12_areSigns 13 = .ok (.i2l, 1) := by decide +kernel
theorem dX12_areSigns_14 : decode cX12_areSigns 14 = .ok (.invokestatic 71, 3) := by decide +kernel
theorem dX12_areSigns_17 : decode cX12_areSigns 17 = .ok (.ireturn, 1) := by decide +kernel
theorem dX12_signOf_0 : decode cX12_signOf 0 = .ok (.aload_n 0, 1) := by decide +kernel
theorem dX12_signOf_1 : decode cX12_signOf 1 = .ok (.getfield 19, 3) := by decide +kernel
theorem dX12_signOf_4 : decode cX12_signOf 4 = .ok (.bipush 40, 2) := by decide +kernel
theorem dX12_signOf_6 : decode cX12_signOf 6 = .ok (.iconst 2, 1) := by decide +kernel
theorem dX12_signOf_7 : decode cX12_signOf 7 = .ok (.iload_n 1, 1) := by decide +kernel
theorem dX12_signOf_8 : decode cX12_signOf 8 = .ok (.imul, 1) := by decide +kernel
theorem dX12_signOf_9 : decode cX12_signOf 9 = .ok (.iadd, 1) := by decide +kernel
theorem dX12_signOf_10 : decode cX12_signOf 10 = .ok (.iload_n 2, 1) := by decide +kernel
theorem dX12_signOf_11 : decode cX12_signOf 11 = .ok (.iadd, 1) := by decide +kernel
theorem dX12_signOf_12 : decode cX12_signOf 12 = .ok (.iaload, 1) := by decide +kernel
theorem dX12_signOf_13 : decode cX12_signOf 13 = .ok (.ireturn, 1) := by decide +kernel
theorem dX12_storyOf_0 : decode cX12_storyOf 0 = .ok (.aload_n 0, 1) := by decide +kernel
theorem dX12_storyOf_1 : decode cX12_storyOf 1 = .ok (.getfield 19, 3) := by decide +kernel
theorem dX12_storyOf_4 : decode cX12_storyOf 4 = .ok (.bipush 60, 2) := by decide +kernel
theorem dX12_storyOf_6 : decode cX12_storyOf 6 = .ok (.iconst 3, 1) := by decide +kernel
theorem dX12_storyOf_7 : decode cX12_storyOf 7 = .ok (.iload_n 1, 1) := by decide +kernel
theorem dX12_storyOf_8 : decode cX12_storyOf 8 = .ok (.imul, 1) := by decide +kernel
theorem dX12_storyOf_9 : decode cX12_storyOf 9 = .ok (.iadd, 1) := by decide +kernel
theorem dX12_storyOf_10 : decode cX12_storyOf 10 = .ok (.iload_n 2, 1) := by decide +kernel
theorem dX12_storyOf_11 : decode cX12_storyOf 11 = .ok (.iadd, 1) := by decide +kernel
theorem dX12_storyOf_12 : decode cX12_storyOf 12 = .ok (.iaload, 1) := by decide +kernel
theorem dX12_storyOf_13 : decode cX12_storyOf 13 = .ok (.ireturn, 1) := by decide +kernel
theorem dX12_storiesBy_0 : decode cX12_storiesBy 0 = .ok (.iconst 0, 1) := by decide +kernel
theorem dX12_storiesBy_1 : decode cX12_storiesBy 1 = .ok (.istore_n 3, 1) := by decide +kernel
theorem dX12_storiesBy_2 : decode cX12_storiesBy 2 = .ok (.iconst 0, 1) := by decide +kernel
theorem dX12_storiesBy_3 : decode cX12_storiesBy 3 = .ok (.istore 4, 2) := by decide +kernel
theorem dX12_storiesBy_5 : decode cX12_storiesBy 5 = .ok (.iload 4, 2) := by decide +kernel
theorem dX12_storiesBy_7 : decode cX12_storiesBy 7 = .ok (.aload_n 0, 1) := by decide +kernel
theorem dX12_storiesBy_8 : decode cX12_storiesBy 8 = .ok (.getfield 19, 3) := by decide +kernel
theorem dX12_storiesBy_11 : decode cX12_storiesBy 11 = .ok (.iconst 5, 1) := by decide +kernel
theorem dX12_storiesBy_12 : decode cX12_storiesBy 12 = .ok (.iaload, 1) := by decide +kernel
theorem dX12_storiesBy_13 : decode cX12_storiesBy 13 = .ok (.if_icmp .ge 26, 3) := by decide +kernel
theorem dX12_storiesBy_16 : decode cX12_storiesBy 16 = .ok (.iload_n 3, 1) := by decide +kernel
theorem dX12_storiesBy_17 : decode cX12_storiesBy 17 = .ok (.aload_n 0, 1) := by decide +kernel
theorem dX12_storiesBy_18 : decode cX12_storiesBy 18 = .ok (.iload 4, 2) := by decide +kernel
theorem dX12_storiesBy_20 : decode cX12_storiesBy 20 = .ok (.iload_n 2, 1) := by decide +kernel
theorem dX12_storiesBy_21 : decode cX12_storiesBy 21 = .ok (.invokevirtual 357, 3) := by decide +kernel
theorem dX12_storiesBy_24 : decode cX12_storiesBy 24 = .ok (.iload_n 1, 1) := by decide +kernel
theorem dX12_storiesBy_25 : decode cX12_storiesBy 25 = .ok (.ishr, 1) := by decide +kernel
theorem dX12_storiesBy_26 : decode cX12_storiesBy 26 = .ok (.iconst 1, 1) := by decide +kernel
theorem dX12_storiesBy_27 : decode cX12_storiesBy 27 = .ok (.iand, 1) := by decide +kernel
theorem dX12_storiesBy_28 : decode cX12_storiesBy 28 = .ok (.iload 4, 2) := by decide +kernel
theorem dX12_storiesBy_30 : decode cX12_storiesBy 30 = .ok (.ishl, 1) := by decide +kernel
theorem dX12_storiesBy_31 : decode cX12_storiesBy 31 = .ok (.ior, 1) := by decide +kernel
theorem dX12_storiesBy_32 : decode cX12_storiesBy 32 = .ok (.istore_n 3, 1) := by decide +kernel
theorem dX12_storiesBy_33 : decode cX12_storiesBy 33 = .ok (.iinc 4 1, 3) := by decide +kernel
theorem dX12_storiesBy_36 : decode cX12_storiesBy 36 = .ok (.goto (-31), 3) := by decide +kernel
theorem dX12_storiesBy_39 : decode cX12_storiesBy 39 = .ok (.iload_n 3, 1) := by decide +kernel
theorem dX12_storiesBy_40 : decode cX12_storiesBy 40 = .ok (.ireturn, 1) := by decide +kernel
theorem dX12_sign_0 : decode cX12_sign 0 = .ok (.aload_n 0, 1) := by decide +kernel
theorem dX12_sign_1 : decode cX12_sign 1 = .ok (.iconst 0, 1) := by decide +kernel
theorem dX12_sign_2 : decode cX12_sign 2 = .ok (.putfield 60, 3) := by decide +kernel
theorem dX12_sign_5 : decode cX12_sign 5 = .ok (.aload_n 0, 1) := by decide +kernel
theorem dX12_sign_6 : decode cX12_sign 6 = .ok (.iload_n 1, 1) := by decide +kernel
theorem dX12_sign_7 : decode cX12_sign 7 = .ok (.invokevirtual 360, 3) := by decide +kernel
theorem dX12_sign_10 : decode cX12_sign 10 = .ok (.ifCond .eq 15, 3) := by decide +kernel
theorem dX12_sign_13 : decode cX12_sign 13 = .ok (.iload_n 2, 1) := by decide +kernel
theorem dX12_sign_14 : decode cX12_sign 14 = .ok (.i2l, 1) := by decide +kernel
theorem dX12_sign_15 : decode cX12_sign 15 = .ok (.lconst 0, 1) := by decide +kernel
theorem dX12_sign_16 : decode cX12_sign 16 = .ok (.ldc2_w 79, 3) := by decide +kernel
theorem dX12_sign_19 : decode cX12_sign 19 = .ok (.invokestatic 71, 3) := by decide +kernel
theorem dX12_sign_22 : decode cX12_sign 22 = .ok (.ifCond .ne 9, 3) := by decide +kernel
theorem dX12_sign_25 : decode cX12_sign 25 = .ok (.ldc2_w 81, 3) := by decide +kernel
theorem dX12_sign_28 : decode cX12_sign 28 = .ok (.goto 24, 3) := by decide +kernel
theorem dX12_sign_31 : decode cX12_sign 31 = .ok (.iload_n 2, 1) := by decide +kernel
theorem dX12_sign_32 : decode cX12_sign 32 = .ok (.ifCond .ne 13, 3) := by decide +kernel
theorem dX12_sign_35 : decode cX12_sign 35 = .ok (.aload_n 0, 1) := by decide +kernel
theorem dX12_sign_36 : decode cX12_sign 36 = .ok (.iload_n 1, 1) := by decide +kernel
theorem dX12_sign_37 : decode cX12_sign 37 = .ok (.iconst 1, 1) := by decide +kernel
theorem dX12_sign_38 : decode cX12_sign 38 = .ok (.invokevirtual 363, 3) := by decide +kernel
theorem dX12_sign_41 : decode cX12_sign 41 = .ok (.i2l, 1) := by decide +kernel
theorem dX12_sign_42 : decode cX12_sign 42 = .ok (.goto 10, 3) := by decide +kernel
theorem dX12_sign_45 : decode cX12_sign 45 = .ok (.aload_n 0, 1) := by decide +kernel
theorem dX12_sign_46 : decode cX12_sign 46 = .ok (.iload_n 1, 1) := by decide +kernel
theorem dX12_sign_47 : decode cX12_sign 47 = .ok (.iload_n 2, 1) := by decide +kernel
theorem dX12_sign_48 : decode cX12_sign 48 = .ok (.invokevirtual 366, 3) := by decide +kernel
theorem dX12_sign_51 : decode cX12_sign 51 = .ok (.i2l, 1) := by decide +kernel
theorem dX12_sign_52 : decode cX12_sign 52 = .ok (.lreturn, 1) := by decide +kernel
theorem dX12_sworn_0 : decode cX12_sworn 0 = .ok (.iconst 0, 1) := by decide +kernel
theorem dX12_sworn_1 : decode cX12_sworn 1 = .ok (.istore_n 3, 1) := by decide +kernel
theorem dX12_sworn_2 : decode cX12_sworn 2 = .ok (.iconst 0, 1) := by decide +kernel
theorem dX12_sworn_3 : decode cX12_sworn 3 = .ok (.istore 4, 2) := by decide +kernel
theorem dX12_sworn_5 : decode cX12_sworn 5 = .ok (.iload 4, 2) := by decide +kernel
theorem dX12_sworn_7 : decode cX12_sworn 7 = .ok (.aload_n 0, 1) := by decide +kernel
theorem dX12_sworn_8 : decode cX12_sworn 8 = .ok (.getfield 19, 3) := by decide +kernel
theorem dX12_sworn_11 : decode cX12_sworn 11 = .ok (.iconst 4, 1) := by decide +kernel
theorem dX12_sworn_12 : decode cX12_sworn 12 = .ok (.iaload, 1) := by decide +kernel
theorem dX12_sworn_13 : decode cX12_sworn 13 = .ok (.if_icmp .ge 96, 3) := by decide +kernel
theorem dX12_sworn_16 : decode cX12_sworn 16 = .ok (.aload_n 0, 1) := by decide +kernel
theorem dX12_sworn_17 : decode cX12_sworn 17 = .ok (.iload 4, 2) := by decide +kernel
theorem dX12_sworn_19 : decode cX12_sworn 19 = .ok (.iconst 0, 1) := by decide +kernel
theorem dX12_sworn_20 : decode cX12_sworn 20 = .ok (.invokevirtual 363, 3) := by decide +kernel
theorem dX12_sworn_23 : decode cX12_sworn 23 = .ok (.istore 5, 2) := by decide +kernel
theorem dX12_sworn_25 : decode cX12_sworn 25 = .ok (.iload_n 2, 1) := by decide +kernel
theorem dX12_sworn_26 : decode cX12_sworn 26 = .ok (.ifCond .eq 36, 3) := by decide +kernel
theorem dX12_sworn_29 : decode cX12_sworn 29 = .ok (.iload 5, 2) := by decide +kernel
theorem dX12_sworn_31 : decode cX12_sworn 31 = .ok (.bipush 7, 2) := by decide +kernel
theorem dX12_sworn_33 : decode cX12_sworn 33 = .ok (.if_icmp .eq 21, 3) := by decide +kernel
theorem dX12_sworn_36 : decode cX12_sworn 36 = .ok (.iload 5, 2) := by decide +kernel
theorem dX12_sworn_38 : decode cX12_sworn 38 = .ok (.bipush 6, 2) := by decide +kernel
theorem dX12_sworn_40 : decode cX12_sworn 40 = .ok (.if_icmp .ne 18, 3) := by decide +kernel
theorem dX12_sworn_43 : decode cX12_sworn 43 = .ok (.aload_n 0, 1) := by decide +kernel
theorem dX12_sworn_44 : decode cX12_sworn 44 = .ok (.iload 4, 2) := by decide +kernel
theorem dX12_sworn_46 : decode cX12_sworn 46 = .ok (.iconst 1, 1) := by decide +kernel
theorem dX12_sworn_47 : decode cX12_sworn 47 = .ok (.invokevirtual 363, 3) := by decide +kernel
theorem dX12_sworn_50 : decode cX12_sworn 50 = .ok (.iload_n 1, 1) := by decide +kernel
theorem dX12_sworn_51 : decode cX12_sworn 51 = .ok (.if_icmp .le 7, 3) := by decide +kernel
theorem dX12_sworn_54 : decode cX12_sworn 54 = .ok (.iconst 1, 1) := by decide +kernel
theorem dX12_sworn_55 : decode cX12_sworn 55 = .ok (.goto 30, 3) := by decide +kernel
theorem dX12_sworn_58 : decode cX12_sworn 58 = .ok (.iconst 0, 1) := by decide +kernel
theorem dX12_sworn_59 : decode cX12_sworn 59 = .ok (.goto 26, 3) := by decide +kernel
theorem dX12_sworn_62 : decode cX12_sworn 62 = .ok (.iload 5, 2) := by decide +kernel
theorem dX12_sworn_64 : decode cX12_sworn 64 = .ok (.bipush 7, 2) := by decide +kernel
theorem dX12_sworn_66 : decode cX12_sworn 66 = .ok (.if_icmp .eq 18, 3) := by decide +kernel
theorem dX12_sworn_69 : decode cX12_sworn 69 = .ok (.aload_n 0, 1) := by decide +kernel
theorem dX12_sworn_70 : decode cX12_sworn 70 = .ok (.iload 4, 2) := by decide +kernel
theorem dX12_sworn_72 : decode cX12_sworn 72 = .ok (.iconst 1, 1) := by decide +kernel
theorem dX12_sworn_73 : decode cX12_sworn 73 = .ok (.invokevirtual 363, 3) := by decide +kernel
theorem dX12_sworn_76 : decode cX12_sworn 76 = .ok (.iload_n 1, 1) := by decide +kernel
theorem dX12_sworn_77 : decode cX12_sworn 77 = .ok (.if_icmp .gt 7, 3) := by decide +kernel
theorem dX12_sworn_80 : decode cX12_sworn 80 = .ok (.iconst 1, 1) := by decide +kernel
theorem dX12_sworn_81 : decode cX12_sworn 81 = .ok (.goto 4, 3) := by decide +kernel
theorem dX12_sworn_84 : decode cX12_sworn 84 = .ok (.iconst 0, 1) := by decide +kernel
theorem dX12_sworn_85 : decode cX12_sworn 85 = .ok (.istore 6, 2) := by decide +kernel
theorem dX12_sworn_87 : decode cX12_sworn 87 = .ok (.iload_n 3, 1) := by decide +kernel
theorem dX12_sworn_88 : decode cX12_sworn 88 = .ok (.iload 6, 2) := by decide +kernel
theorem dX12_sworn_90 : decode cX12_sworn 90 = .ok (.ifCond .eq 10, 3) := by decide +kernel
theorem dX12_sworn_93 : decode cX12_sworn 93 = .ok (.iconst 1, 1) := by decide +kernel
theorem dX12_sworn_94 : decode cX12_sworn 94 = .ok (.iload 4, 2) := by decide +kernel
theorem dX12_sworn_96 : decode cX12_sworn 96 = .ok (.ishl, 1) := by decide +kernel
theorem dX12_sworn_97 : decode cX12_sworn 97 = .ok (.goto 4, 3) := by decide +kernel
theorem dX12_sworn_100 : decode cX12_sworn 100 = .ok (.iconst 0, 1) := by decide +kernel
theorem dX12_sworn_101 : decode cX12_sworn 101 = .ok (.ior, 1) := by decide +kernel
theorem dX12_sworn_102 : decode cX12_sworn 102 = .ok (.istore_n 3, 1) := by decide +kernel
theorem dX12_sworn_103 : decode cX12_sworn 103 = .ok (.iinc 4 1, 3) := by decide +kernel
theorem dX12_sworn_106 : decode cX12_sworn 106 = .ok (.goto (-101), 3) := by decide +kernel
theorem dX12_sworn_109 : decode cX12_sworn 109 = .ok (.iload_n 3, 1) := by decide +kernel
theorem dX12_sworn_110 : decode cX12_sworn 110 = .ok (.ireturn, 1) := by decide +kernel
theorem dX12_oath_0 : decode cX12_oath 0 = .ok (.aload_n 0, 1) := by decide +kernel
theorem dX12_oath_1 : decode cX12_oath 1 = .ok (.iconst 0, 1) := by decide +kernel
theorem dX12_oath_2 : decode cX12_oath 2 = .ok (.putfield 60, 3) := by decide +kernel
theorem dX12_oath_5 : decode cX12_oath 5 = .ok (.aload_n 0, 1) := by decide +kernel
theorem dX12_oath_6 : decode cX12_oath 6 = .ok (.getfield 238, 3) := by decide +kernel
theorem dX12_oath_9 : decode cX12_oath 9 = .ok (.ifCond .ne 9, 3) := by decide +kernel
theorem dX12_oath_12 : decode cX12_oath 12 = .ok (.ldc2_w 259, 3) := by decide +kernel
theorem dX12_oath_15 : decode cX12_oath 15 = .ok (.goto 28, 3) := by decide +kernel
theorem dX12_oath_18 : decode cX12_oath 18 = .ok (.iload_n 1, 1) := by decide +kernel
theorem dX12_oath_19 : decode cX12_oath 19 = .ok (.i2l, 1) := by decide +kernel
theorem dX12_oath_20 : decode cX12_oath 20 = .ok (.lconst 0, 1) := by decide +kernel
theorem dX12_oath_21 : decode cX12_oath 21 = .ok (.ldc2_w 369, 3) := by decide +kernel
theorem dX12_oath_24 : decode cX12_oath 24 = .ok (.invokestatic 71, 3) := by decide +kernel
theorem dX12_oath_27 : decode cX12_oath 27 = .ok (.ifCond .eq 13, 3) := by decide +kernel
theorem dX12_oath_30 : decode cX12_oath 30 = .ok (.aload_n 0, 1) := by decide +kernel
theorem dX12_oath_31 : decode cX12_oath 31 = .ok (.iload_n 1, 1) := by decide +kernel
theorem dX12_oath_32 : decode cX12_oath 32 = .ok (.iconst 0, 1) := by decide +kernel
theorem dX12_oath_33 : decode cX12_oath 33 = .ok (.invokevirtual 371, 3) := by decide +kernel
theorem dX12_oath_36 : decode cX12_oath 36 = .ok (.i2l, 1) := by decide +kernel
theorem dX12_oath_37 : decode cX12_oath 37 = .ok (.goto 6, 3) := by decide +kernel
theorem dX12_oath_40 : decode cX12_oath 40 = .ok (.ldc2_w 81, 3) := by decide +kernel
theorem dX12_oath_43 : decode cX12_oath 43 = .ok (.lreturn, 1) := by decide +kernel
theorem dX12_madeUp_0 : decode cX12_madeUp 0 = .ok (.aload_n 0, 1) := by decide +kernel
theorem dX12_madeUp_1 : decode cX12_madeUp 1 = .ok (.iconst 0, 1) := by decide +kernel
theorem dX12_madeUp_2 : decode cX12_madeUp 2 = .ok (.putfield 60, 3) := by decide +kernel
theorem dX12_madeUp_5 : decode cX12_madeUp 5 = .ok (.aload_n 0, 1) := by decide +kernel
theorem dX12_madeUp_6 : decode cX12_madeUp 6 = .ok (.getfield 238, 3) := by decide +kernel
theorem dX12_madeUp_9 : decode cX12_madeUp 9 = .ok (.ifCond .ne 9, 3) := by decide +kernel
theorem dX12_madeUp_12 : decode cX12_madeUp 12 = .ok (.ldc2_w 259, 3) := by decide +kernel
theorem dX12_madeUp_15 : decode cX12_madeUp 15 = .ok (.goto 28, 3) := by decide +kernel
theorem dX12_madeUp_18 : decode cX12_madeUp 18 = .ok (.iload_n 1, 1) := by decide +kernel
theorem dX12_madeUp_19 : decode cX12_madeUp 19 = .ok (.i2l, 1) := by decide +kernel
theorem dX12_madeUp_20 : decode cX12_madeUp 20 = .ok (.lconst 0, 1) := by decide +kernel
theorem dX12_madeUp_21 : decode cX12_madeUp 21 = .ok (.ldc2_w 369, 3) := by decide +kernel
theorem dX12_madeUp_24 : decode cX12_madeUp 24 = .ok (.invokestatic 71, 3) := by decide +kernel
theorem dX12_madeUp_27 : decode cX12_madeUp 27 = .ok (.ifCond .eq 13, 3) := by decide +kernel
theorem dX12_madeUp_30 : decode cX12_madeUp 30 = .ok (.aload_n 0, 1) := by decide +kernel
theorem dX12_madeUp_31 : decode cX12_madeUp 31 = .ok (.iload_n 1, 1) := by decide +kernel
theorem dX12_madeUp_32 : decode cX12_madeUp 32 = .ok (.iconst 1, 1) := by decide +kernel
theorem dX12_madeUp_33 : decode cX12_madeUp 33 = .ok (.invokevirtual 371, 3) := by decide +kernel
theorem dX12_madeUp_36 : decode cX12_madeUp 36 = .ok (.i2l, 1) := by decide +kernel
theorem dX12_madeUp_37 : decode cX12_madeUp 37 = .ok (.goto 6, 3) := by decide +kernel
theorem dX12_madeUp_40 : decode cX12_madeUp 40 = .ok (.ldc2_w 81, 3) := by decide +kernel
theorem dX12_madeUp_43 : decode cX12_madeUp 43 = .ok (.lreturn, 1) := by decide +kernel
theorem dX12_weightOf_0 : decode cX12_weightOf 0 = .ok (.aload_n 0, 1) := by decide +kernel
theorem dX12_weightOf_1 : decode cX12_weightOf 1 = .ok (.iload_n 1, 1) := by decide +kernel
theorem dX12_weightOf_2 : decode cX12_weightOf 2 = .ok (.iconst 0, 1) := by decide +kernel
theorem dX12_weightOf_3 : decode cX12_weightOf 3 = .ok (.invokevirtual 357, 3) := by decide +kernel
theorem dX12_weightOf_6 : decode cX12_weightOf 6 = .ok (.i2l, 1) := by decide +kernel
theorem dX12_weightOf_7 : decode cX12_weightOf 7 = .ok (.lstore_n 3, 1) := by decide +kernel
theorem dX12_weightOf_8 : decode cX12_weightOf 8 = .ok (.iconst 0, 1) := by decide +kernel
theorem dX12_weightOf_9 : decode cX12_weightOf 9 = .ok (.istore 5, 2) := by decide +kernel
theorem dX12_weightOf_11 : decode cX12_weightOf 11 = .ok (.iload 5, 2) := by decide +kernel
theorem dX12_weightOf_13 : decode cX12_weightOf 13 = .ok (.aload_n 0, 1) := by decide +kernel
theorem dX12_weightOf_14 : decode cX12_weightOf 14 = .ok (.getfield 19, 3) := by decide +kernel
theorem dX12_weightOf_17 : decode cX12_weightOf 17 = .ok (.iconst 4, 1) := by decide +kernel
theorem dX12_weightOf_18 : decode cX12_weightOf 18 = .ok (.iaload, 1) := by decide +kernel
theorem dX12_weightOf_19 : decode cX12_weightOf 19 = .ok (.if_icmp .ge 110, 3) := by decide +kernel
theorem dX12_weightOf_22 : decode cX12_weightOf 22 = .ok (.iload_n 2, 1) := by decide +kernel
theorem dX12_weightOf_23 : decode cX12_weightOf 23 = .ok (.iload 5, 2) := by decide +kernel
theorem dX12_weightOf_25 : decode cX12_weightOf 25 = .ok (.ishr, 1) := by decide +kernel
theorem dX12_weightOf_26 : decode cX12_weightOf 26 = .ok (.iconst 1, 1) := by decide +kernel
theorem dX12_weightOf_27 : decode cX12_weightOf 27 = .ok (.iand, 1) := by decide +kernel
theorem dX12_weightOf_28 : decode cX12_weightOf 28 = .ok (.iconst 1, 1) := by decide +kernel
theorem dX12_weightOf_29 : decode cX12_weightOf 29 = .ok (.if_icmp .ne 7, 3) := by decide +kernel
theorem dX12_weightOf_32 : decode cX12_weightOf 32 = .ok (.iconst 1, 1) := by decide +kernel
theorem dX12_weightOf_33 : decode cX12_weightOf 33 = .ok (.goto 4, 3) := by decide +kernel
theorem dX12_weightOf_36 : decode cX12_weightOf 36 = .ok (.iconst 0, 1) := by decide +kernel
theorem dX12_weightOf_37 : decode cX12_weightOf 37 = .ok (.istore 6, 2) := by decide +kernel
theorem dX12_weightOf_39 : decode cX12_weightOf 39 = .ok (.aload_n 0, 1) := by decide +kernel
theorem dX12_weightOf_40 : decode cX12_weightOf 40 = .ok (.iload_n 1, 1) := by decide +kernel
theorem dX12_weightOf_41 : decode cX12_weightOf 41 = .ok (.iconst 1, 1) := by decide +kernel
theorem dX12_weightOf_42 : decode cX12_weightOf 42 = .ok (.invokevirtual 357, 3) := by decide +kernel
theorem dX12_weightOf_45 : decode cX12_weightOf 45 = .ok (.iload 5, 2) := by decide +kernel
theorem dX12_weightOf_47 : decode cX12_weightOf 47 = .ok (.ishr, 1) := by decide +kernel
theorem dX12_weightOf_48 : decode cX12_weightOf 48 = .ok (.iconst 1, 1) := by decide +kernel
theorem dX12_weightOf_49 : decode cX12_weightOf 49 = .ok (.iand, 1) := by decide +kernel
theorem dX12_weightOf_50 : decode cX12_weightOf 50 = .ok (.iconst 1, 1) := by decide +kernel
theorem dX12_weightOf_51 : decode cX12_weightOf 51 = .ok (.if_icmp .ne 7, 3) := by decide +kernel
theorem dX12_weightOf_54 : decode cX12_weightOf 54 = .ok (.iconst 1, 1) := by decide +kernel
theorem dX12_weightOf_55 : decode cX12_weightOf 55 = .ok (.goto 4, 3) := by decide +kernel
theorem dX12_weightOf_58 : decode cX12_weightOf 58 = .ok (.iconst 0, 1) := by decide +kernel
theorem dX12_weightOf_59 : decode cX12_weightOf 59 = .ok (.istore 7, 2) := by decide +kernel
theorem dX12_weightOf_61 : decode cX12_weightOf 61 = .ok (.aload_n 0, 1) := by decide +kernel
theorem dX12_weightOf_62 : decode cX12_weightOf 62 = .ok (.iload_n 1, 1) := by decide +kernel
theorem dX12_weightOf_63 : decode cX12_weightOf 63 = .ok (.iconst 2, 1) := by decide +kernel
theorem dX12_weightOf_64 : decode cX12_weightOf 64 = .ok (.invokevirtual 357, 3) := by decide +kernel
theorem dX12_weightOf_67 : decode cX12_weightOf 67 = .ok (.iload 5, 2) := by decide +kernel
theorem dX12_weightOf_69 : decode cX12_weightOf 69 = .ok (.ishr, 1) := by decide +kernel
theorem dX12_weightOf_70 : decode cX12_weightOf 70 = .ok (.iconst 1, 1) := by decide +kernel
theorem dX12_weightOf_71 : decode cX12_weightOf 71 = .ok (.iand, 1) := by decide +kernel
theorem dX12_weightOf_72 : decode cX12_weightOf 72 = .ok (.iconst 1, 1) := by decide +kernel
theorem dX12_weightOf_73 : decode cX12_weightOf 73 = .ok (.if_icmp .ne 7, 3) := by decide +kernel
theorem dX12_weightOf_76 : decode cX12_weightOf 76 = .ok (.iconst 1, 1) := by decide +kernel
theorem dX12_weightOf_77 : decode cX12_weightOf 77 = .ok (.goto 4, 3) := by decide +kernel
theorem dX12_weightOf_80 : decode cX12_weightOf 80 = .ok (.iconst 0, 1) := by decide +kernel
theorem dX12_weightOf_81 : decode cX12_weightOf 81 = .ok (.istore 8, 2) := by decide +kernel
theorem dX12_weightOf_83 : decode cX12_weightOf 83 = .ok (.lload_n 3, 1) := by decide +kernel
theorem dX12_weightOf_84 : decode cX12_weightOf 84 = .ok (.iload 7, 2) := by decide +kernel
theorem dX12_weightOf_86 : decode cX12_weightOf 86 = .ok (.ifCond .eq 18, 3) := by decide +kernel
theorem dX12_weightOf_89 : decode cX12_weightOf 89 = .ok (.iload 6, 2) := by decide +kernel
theorem dX12_weightOf_91 : decode cX12_weightOf 91 = .ok (.ifCond .eq 9, 3) := by decide +kernel
theorem dX12_weightOf_94 : decode cX12_weightOf 94 = .ok (.ldc2_w 375, 3) := by decide +kernel
theorem dX12_weightOf_97 : decode cX12_weightOf 97 = .ok (.goto 24, 3) := by decide +kernel
theorem dX12_weightOf_100 : decode cX12_weightOf 100 = .ok (.lconst 1, 1) := by decide +kernel
theorem dX12_weightOf_101 : decode cX12_weightOf 101 = .ok (.goto 20, 3) := by decide +kernel
theorem dX12_weightOf_104 : decode cX12_weightOf 104 = .ok (.iload 8, 2) := by decide +kernel
theorem dX12_weightOf_106 : decode cX12_weightOf 106 = .ok (.ifCond .eq 12, 3) := by decide +kernel
theorem dX12_weightOf_109 : decode cX12_weightOf 109 = .ok (.iload 6, 2) := by decide +kernel
theorem dX12_weightOf_111 : decode cX12_weightOf 111 = .ok (.ifCond .eq 7, 3) := by decide +kernel
theorem dX12_weightOf_114 : decode cX12_weightOf 114 = .ok (.lconst 0, 1) := by decide +kernel
theorem dX12_weightOf_115 : decode cX12_weightOf 115 = .ok (.goto 6, 3) := by decide +kernel
theorem dX12_weightOf_118 : decode cX12_weightOf 118 = .ok (.ldc2_w 79, 3) := by decide +kernel
theorem dX12_weightOf_121 : decode cX12_weightOf 121 = .ok (.lmul, 1) := by decide +kernel
theorem dX12_weightOf_122 : decode cX12_weightOf 122 = .ok (.lstore_n 3, 1) := by decide +kernel
theorem dX12_weightOf_123 : decode cX12_weightOf 123 = .ok (.iinc 5 1, 3) := by decide +kernel
theorem dX12_weightOf_126 : decode cX12_weightOf 126 = .ok (.goto (-115), 3) := by decide +kernel
theorem dX12_weightOf_129 : decode cX12_weightOf 129 = .ok (.lload_n 3, 1) := by decide +kernel
theorem dX12_weightOf_130 : decode cX12_weightOf 130 = .ok (.lreturn, 1) := by decide +kernel
theorem dX12_odds_0 : decode cX12_odds 0 = .ok (.aload_n 0, 1) := by decide +kernel
theorem dX12_odds_1 : decode cX12_odds 1 = .ok (.iconst 0, 1) := by decide +kernel
theorem dX12_odds_2 : decode cX12_odds 2 = .ok (.putfield 60, 3) := by decide +kernel
theorem dX12_odds_5 : decode cX12_odds 5 = .ok (.aload_n 0, 1) := by decide +kernel
theorem dX12_odds_6 : decode cX12_odds 6 = .ok (.iload_n 1, 1) := by decide +kernel
theorem dX12_odds_7 : decode cX12_odds 7 = .ok (.invokevirtual 377, 3) := by decide +kernel
theorem dX12_odds_10 : decode cX12_odds 10 = .ok (.ifCond .eq 21, 3) := by decide +kernel
theorem dX12_odds_13 : decode cX12_odds 13 = .ok (.aload_n 0, 1) := by decide +kernel
theorem dX12_odds_14 : decode cX12_odds 14 = .ok (.iload_n 2, 1) := by decide +kernel
theorem dX12_odds_15 : decode cX12_odds 15 = .ok (.invokevirtual 380, 3) := by decide +kernel
theorem dX12_odds_18 : decode cX12_odds 18 = .ok (.ifCond .eq 13, 3) := by decide +kernel
theorem dX12_odds_21 : decode cX12_odds 21 = .ok (.iload_n 3, 1) := by decide +kernel
theorem dX12_odds_22 : decode cX12_odds 22 = .ok (.i2l, 1) := by decide +kernel
theorem dX12_odds_23 : decode cX12_odds 23 = .ok (.lconst 0, 1) := by decide +kernel
theorem dX12_odds_24 : decode cX12_odds 24 = .ok (.lconst 1, 1) := by decide +kernel
theorem dX12_odds_25 : decode cX12_odds 25 = .ok (.invokestatic 71, 3) := by decide +kernel
theorem dX12_odds_28 : decode cX12_odds 28 = .ok (.ifCond .ne 7, 3) := by decide +kernel
theorem dX12_odds_31 : decode cX12_odds 31 = .ok (.ldc2_w 81, 3) := by decide +kernel
theorem dX12_odds_34 : decode cX12_odds 34 = .ok (.lreturn, 1) := by decide +kernel
theorem dX12_odds_35 : decode cX12_odds 35 = .ok (.lconst 0, 1) := by decide +kernel
theorem dX12_odds_36 : decode cX12_odds 36 = .ok (.lstore 4, 2) := by decide +kernel
theorem dX12_odds_38 : decode cX12_odds 38 = .ok (.iconst 0, 1) := by decide +kernel
theorem dX12_odds_39 : decode cX12_odds 39 = .ok (.istore 6, 2) := by decide +kernel
theorem dX12_odds_41 : decode cX12_odds 41 = .ok (.iload 6, 2) := by decide +kernel
theorem dX12_odds_43 : decode cX12_odds 43 = .ok (.aload_n 0, 1) := by decide +kernel
theorem dX12_odds_44 : decode cX12_odds 44 = .ok (.getfield 19, 3) := by decide +kernel
theorem dX12_odds_47 : decode cX12_odds 47 = .ok (.iconst 5, 1) := by decide +kernel
theorem dX12_odds_48 : decode cX12_odds 48 = .ok (.iaload, 1) := by decide +kernel
theorem dX12_odds_49 : decode cX12_odds 49 = .ok (.if_icmp .ge 21, 3) := by decide +kernel
theorem dX12_odds_52 : decode cX12_odds 52 = .ok (.lload 4, 2) := by decide +kernel
theorem dX12_odds_54 : decode cX12_odds 54 = .ok (.aload_n 0, 1) := by decide +kernel
theorem dX12_odds_55 : decode cX12_odds 55 = .ok (.iload 6, 2) := by decide +kernel
theorem dX12_odds_57 : decode cX12_odds 57 = .ok (.iload_n 2, 1) := by decide +kernel
theorem dX12_odds_58 : decode cX12_odds 58 = .ok (.invokevirtual 383, 3) := by decide +kernel
theorem dX12_odds_61 : decode cX12_odds 61 = .ok (.ladd, 1) := by decide +kernel
theorem dX12_odds_62 : decode cX12_odds 62 = .ok (.lstore 4, 2) := by decide +kernel
theorem dX12_odds_64 : decode cX12_odds 64 = .ok (.iinc 6 1, 3) := by decide +kernel
theorem dX12_odds_67 : decode cX12_odds 67 = .ok (.goto (-26), 3) := by decide +kernel
theorem dX12_odds_70 : decode cX12_odds 70 = .ok (.lload 4, 2) := by decide +kernel
theorem dX12_odds_72 : decode cX12_odds 72 = .ok (.lconst 0, 1) := by decide +kernel
theorem dX12_odds_73 : decode cX12_odds 73 = .ok (.lcmp, 1) := by decide +kernel
theorem dX12_odds_74 : decode cX12_odds 74 = .ok (.ifCond .ne 8, 3) := by decide +kernel
theorem dX12_odds_77 : decode cX12_odds 77 = .ok (.iload_n 3, 1) := by decide +kernel
theorem dX12_odds_78 : decode cX12_odds 78 = .ok (.i2l, 1) := by decide +kernel
theorem dX12_odds_79 : decode cX12_odds 79 = .ok (.goto 15, 3) := by decide +kernel
theorem dX12_odds_82 : decode cX12_odds 82 = .ok (.aload_n 0, 1) := by decide +kernel
theorem dX12_odds_83 : decode cX12_odds 83 = .ok (.iload_n 1, 1) := by decide +kernel
theorem dX12_odds_84 : decode cX12_odds 84 = .ok (.iload_n 2, 1) := by decide +kernel
theorem dX12_odds_85 : decode cX12_odds 85 = .ok (.invokevirtual 383, 3) := by decide +kernel
theorem dX12_odds_88 : decode cX12_odds 88 = .ok (.lload 4, 2) := by decide +kernel
theorem dX12_odds_90 : decode cX12_odds 90 = .ok (.iload_n 3, 1) := by decide +kernel
theorem dX12_odds_91 : decode cX12_odds 91 = .ok (.invokestatic 312, 3) := by decide +kernel
theorem dX12_odds_94 : decode cX12_odds 94 = .ok (.lreturn, 1) := by decide +kernel
theorem dX12_likeliest_0 : decode cX12_likeliest 0 = .ok (.aload_n 0, 1) := by decide +kernel
theorem dX12_likeliest_1 : decode cX12_likeliest 1 = .ok (.iconst 0, 1) := by decide +kernel
theorem dX12_likeliest_2 : decode cX12_likeliest 2 = .ok (.putfield 60, 3) := by decide +kernel
theorem dX12_likeliest_5 : decode cX12_likeliest 5 = .ok (.aload_n 0, 1) := by decide +kernel
theorem dX12_likeliest_6 : decode cX12_likeliest 6 = .ok (.getfield 19, 3) := by decide +kernel
theorem dX12_likeliest_9 : decode cX12_likeliest 9 = .ok (.iconst 5, 1) := by decide +kernel
theorem dX12_likeliest_10 : decode cX12_likeliest 10 = .ok (.iaload, 1) := by decide +kernel
theorem dX12_likeliest_11 : decode cX12_likeliest 11 = .ok (.ifCond .ne 7, 3) := by decide +kernel
theorem dX12_likeliest_14 : decode cX12_likeliest 14 = .ok (.ldc2_w 259, 3) := by decide +kernel
theorem dX12_likeliest_17 : decode cX12_likeliest 17 = .ok (.lreturn, 1) := by decide +kernel
theorem dX12_likeliest_18 : decode cX12_likeliest 18 = .ok (.aload_n 0, 1) := by decide +kernel
theorem dX12_likeliest_19 : decode cX12_likeliest 19 = .ok (.iload_n 1, 1) := by decide +kernel
theorem dX12_likeliest_20 : decode cX12_likeliest 20 = .ok (.invokevirtual 380, 3) := by decide +kernel
theorem dX12_likeliest_23 : decode cX12_likeliest 23 = .ok (.ifCond .ne 7, 3) := by decide +kernel
theorem dX12_likeliest_26 : decode cX12_likeliest 26 = .ok (.ldc2_w 81, 3) := by decide +kernel
theorem dX12_likeliest_29 : decode cX12_likeliest 29 = .ok (.lreturn, 1) := by decide +kernel
theorem dX12_likeliest_30 : decode cX12_likeliest 30 = .ok (.ldc 99, 2) := by decide +kernel
theorem dX12_likeliest_32 : decode cX12_likeliest 32 = .ok (.istore_n 2, 1) := by decide +kernel
theorem dX12_likeliest_33 : decode cX12_likeliest 33 = .ok (.lconst 0, 1) := by decide +kernel
theorem dX12_likeliest_34 : decode cX12_likeliest 34 = .ok (.lstore_n 3, 1) := by decide +kernel
theorem dX12_likeliest_35 : decode cX12_likeliest 35 = .ok (.iconst 0, 1) := by decide +kernel
theorem dX12_likeliest_36 : decode cX12_likeliest 36 = .ok (.istore 5, 2) := by decide +kernel
theorem dX12_likeliest_38 : decode cX12_likeliest 38 = .ok (.iload 5, 2) := by decide +kernel
theorem dX12_likeliest_40 : decode cX12_likeliest 40 = .ok (.aload_n 0, 1) := by decide +kernel
theorem dX12_likeliest_41 : decode cX12_likeliest 41 = .ok (.getfield 19, 3) := by decide +kernel
theorem dX12_likeliest_44 : decode cX12_likeliest 44 = .ok (.iconst 5, 1) := by decide +kernel
theorem dX12_likeliest_45 : decode cX12_likeliest 45 = .ok (.iaload, 1) := by decide +kernel
theorem dX12_likeliest_46 : decode cX12_likeliest 46 = .ok (.if_icmp .ge 46, 3) := by decide +kernel
theorem dX12_likeliest_49 : decode cX12_likeliest 49 = .ok (.aload_n 0, 1) := by decide +kernel
theorem dX12_likeliest_50 : decode cX12_likeliest 50 = .ok (.iload 5, 2) := by decide +kernel
theorem dX12_likeliest_52 : decode cX12_likeliest 52 = .ok (.iload_n 1, 1) := by decide +kernel
theorem dX12_likeliest_53 : decode cX12_likeliest 53 = .ok (.invokevirtual 383, 3) := by decide +kernel
theorem dX12_likeliest_56 : decode cX12_likeliest 56 = .ok (.lstore 6, 2) := by decide +kernel
theorem dX12_likeliest_58 : decode cX12_likeliest 58 = .ok (.lload 6, 2) := by decide +kernel
theorem dX12_likeliest_60 : decode cX12_likeliest 60 = .ok (.lload_n 3, 1) := by decide +kernel
theorem dX12_likeliest_61 : decode cX12_likeliest 61 = .ok (.lcmp, 1) := by decide +kernel
theorem dX12_likeliest_62 : decode cX12_likeliest 62 = .ok (.ifCond .le 8, 3) := by decide +kernel
theorem dX12_likeliest_65 : decode cX12_likeliest 65 = .ok (.iload 5, 2) := by decide +kernel
theorem dX12_likeliest_67 : decode cX12_likeliest 67 = .ok (.goto 4, 3) := by decide +kernel
theorem dX12_likeliest_70 : decode cX12_likeliest 70 = .ok (.iload_n 2, 1) := by decide +kernel
theorem dX12_likeliest_71 : decode cX12_likeliest 71 = .ok (.istore_n 2, 1) := by decide +kernel
theorem dX12_likeliest_72 : decode cX12_likeliest 72 = .ok (.lload 6, 2) := by decide +kernel
theorem dX12_likeliest_74 : decode cX12_likeliest 74 = .ok (.lload_n 3, 1) := by decide +kernel
theorem dX12_likeliest_75 : decode cX12_likeliest 75 = .ok (.lcmp, 1) := by decide +kernel
theorem dX12_likeliest_76 : decode cX12_likeliest 76 = .ok (.ifCond .le 8, 3) := by decide +kernel
theorem dX12_likeliest_79 : decode cX12_likeliest 79 = .ok (.lload 6, 2) := by decide +kernel
theorem dX12_likeliest_81 : decode cX12_likeliest 81 = .ok (.goto 4, 3) := by decide +kernel
theorem dX12_likeliest_84 : decode cX12_likeliest 84 = .ok (.lload_n 3, 1) := by decide +kernel
theorem dX12_likeliest_85 : decode cX12_likeliest 85 = .ok (.lstore_n 3, 1) := by decide +kernel
theorem dX12_likeliest_86 : decode cX12_likeliest 86 = .ok (.iinc 5 1, 3) := by decide +kernel
theorem dX12_likeliest_89 : decode cX12_likeliest 89 = .ok (.goto (-51), 3) := by decide +kernel
