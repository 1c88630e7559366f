theorem dX10_init_0 : decode cX10_init 0 = .ok (.aload_n 0, 1) := by decide +kernel
theorem dX10_init_1 : decode cX10_init 1 = .ok (.invokespecial 1, 3) := by decide +kernel
theorem dX10_init_4 : decode cX10_init 4 = .ok (.aload_n 0, 1) := by decide +kernel
theorem dX10_init_5 : decode cX10_init 5 = .ok (.new 7, 3) := by decide +kernel
theorem dX10_init_8 : decode cX10_init 8 = .ok (.dup, 1) := by decide +kernel
theorem dX10_init_9 : decode cX10_init 9 = .ok (.invokespecial 9, 3) := by decide +kernel
theorem dX10_init_12 : decode cX10_init 12 = .ok (.putfield 10, 3) := by decide +kernel
theorem dX10_init_15 : decode cX10_init 15 = .ok (.aload_n 0, 1) := by decide +kernel
theorem dX10_init_16 : decode cX10_init 16 = .ok (.new 16, 3) := by decide +kernel
theorem dX10_init_19 : decode cX10_init 19 = .ok (.dup, 1) := by decide +kernel
theorem dX10_init_20 : decode cX10_init 20 = .ok (.invokespecial 18, 3) := by decide +kernel
theorem dX10_init_23 : decode cX10_init 23 = .ok (.putfield 19, 3) := by decide +kernel
theorem dX10_init_26 : decode cX10_init 26 = .ok (.aload_n 0, 1) := by decide +kernel
theorem dX10_init_27 : decode cX10_init 27 = .ok (.new 23, 3) := by decide +kernel
theorem dX10_init_30 : decode cX10_init 30 = .ok (.dup, 1) := by decide +kernel
theorem dX10_init_31 : decode cX10_init 31 = .ok (.invokespecial 25, 3) := by decide +kernel
theorem dX10_init_34 : decode cX10_init 34 = .ok (.putfield 26, 3) := by decide +kernel
theorem dX10_init_37 : decode cX10_init 37 = .ok (.aload_n 0, 1) := by decide +kernel
theorem dX10_init_38 : decode cX10_init 38 = .ok (.new 23, 3) := by decide +kernel
theorem dX10_init_41 : decode cX10_init 41 = .ok (.dup, 1) := by decide +kernel
theorem dX10_init_42 : decode cX10_init 42 = .ok (.invokespecial 25, 3) := by decide +kernel
theorem dX10_init_45 : decode cX10_init 45 = .ok (.putfield 30, 3) := by decide +kernel
theorem dX10_init_48 : decode cX10_init 48 = .ok (.aload_n 0, 1) := by decide +kernel
theorem dX10_init_49 : decode cX10_init 49 = .ok (.iconst 0, 1) := by decide +kernel
theorem dX10_init_50 : decode cX10_init 50 = .ok (.putfield 33, 3) := by decide +kernel
theorem dX10_init_53 : decode cX10_init 53 = .ok (.aload_n 0, 1) := by decide +kernel
theorem dX10_init_54 : decode cX10_init 54 = .ok (.new 37, 3) := by decide +kernel
theorem dX10_init_57 : decode cX10_init 57 = .ok (.dup, 1) := by decide +kernel
theorem dX10_init_58 : decode cX10_init 58 = .ok (.invokespecial 39, 3) := by decide +kernel
theorem dX10_init_61 : decode cX10_init 61 = .ok (.putfield 40, 3) := by decide +kernel
theorem dX10_init_64 : decode cX10_init 64 = .ok (.aload_n 0, 1) := by decide +kernel
theorem dX10_init_65 : decode cX10_init 65 = .ok (.new 44, 3) := by decide +kernel
theorem dX10_init_68 : decode cX10_init 68 = .ok (.dup, 1) := by decide +kernel
theorem dX10_init_69 : decode cX10_init 69 = .ok (.invokespecial 46, 3) := by decide +kernel
theorem dX10_init_72 : decode cX10_init 72 = .ok (.putfield 47, 3) := by decide +kernel
theorem dX10_init_75 : decode cX10_init 75 = .ok (.aload_n 0, 1) := by decide +kernel
theorem dX10_init_76 : decode cX10_init 76 = .ok (.new 51, 3) := by decide +kernel
theorem dX10_init_79 : decode cX10_init 79 = .ok (.dup, 1) := by decide +kernel
theorem dX10_init_80 : decode cX10_init 80 = .ok (.invokespecial 53, 3) := by decide +kernel
theorem dX10_init_83 : decode cX10_init 83 = .ok (.putfield 54, 3) := by decide +kernel
theorem dX10_init_86 : decode cX10_init 86 = .ok (.aload_n 0, 1) := by decide +kernel
theorem dX10_init_87 : decode cX10_init 87 = .ok (.new 58, 3) := by decide +kernel
theorem dX10_init_90 : decode cX10_init 90 = .ok (.dup, 1) := by decide +kernel
theorem dX10_init_91 : decode cX10_init 91 = .ok (.invokespecial 60, 3) := by decide +kernel
theorem dX10_init_94 : decode cX10_init 94 = .ok (.putfield 61, 3) := by decide +kernel
theorem dX10_init_97 : decode cX10_init 97 = .ok (.aload_n 0, 1) := by decide +kernel
theorem dX10_init_98 : decode cX10_init 98 = .ok (.new 65, 3) := by decide +kernel
theorem dX10_init_101 : decode cX10_init 101 = .ok (.dup, 1) := by decide +kernel
theorem dX10_init_102 : decode cX10_init 102 = .ok (.invokespecial 67, 3) := by decide +kernel
theorem dX10_init_105 : decode cX10_init 105 = .ok (.putfield 68, 3) := by decide +kernel
theorem dX10_init_108 : decode cX10_init 108 = .ok (.aload_n 0, 1) := by decide +kernel
theorem dX10_init_109 : decode cX10_init 109 = .ok (.new 72, 3) := by decide +kernel
theorem dX10_init_112 : decode cX10_init 112 = .ok (.dup, 1) := by decide +kernel
theorem dX10_init_113 : decode cX10_init 113 = .ok (.invokespecial 74, 3) := by decide +kernel
theorem dX10_init_116 : decode cX10_init 116 = .ok (.putfield 75, 3) := by decide +kernel
theorem dX10_init_119 : decode cX10_init 119 = .ok (.aload_n 0, 1) := by decide +kernel
theorem dX10_init_120 : decode cX10_init 120 = .ok (.bipush 6, 2) := by decide +kernel
theorem dX10_init_122 : decode cX10_init 122 = .ok (.anewarray 79, 3) := by decide +kernel
theorem dX10_init_125 : decode cX10_init 125 = .ok (.putfield 81, 3) := by decide +kernel
theorem dX10_init_128 : decode cX10_init 128 = .ok (.iconst 0, 1) := by decide +kernel
theorem dX10_init_129 : decode cX10_init 129 = .ok (.istore_n 1, 1) := by decide +kernel
theorem dX10_init_130 : decode cX10_init 130 = .ok (.iload_n 1, 1) := by decide +kernel
theorem dX10_init_131 : decode cX10_init 131 = .ok (.bipush 6, 2) := by decide +kernel
theorem dX10_init_133 : decode cX10_init 133 = .ok (.if_icmp .ge 22, 3) := by decide +kernel
theorem dX10_init_136 : decode cX10_init 136 = .ok (.aload_n 0, 1) := by decide +kernel
theorem dX10_init_137 : decode cX10_init 137 = .ok (.getfield 81, 3) := by decide +kernel
theorem dX10_init_140 : decode cX10_init 140 = .ok (.iload_n 1, 1) := by decide +kernel
theorem dX10_init_141 : decode cX10_init 141 = .ok (.new 79, 3) := by decide +kernel
theorem dX10_init_144 : decode cX10_init 144 = .ok (.dup, 1) := by decide +kernel
theorem dX10_init_145 : decode cX10_init 145 = .ok (.invokespecial 85, 3) := by decide +kernel
theorem dX10_init_148 : decode cX10_init 148 = .ok (.aastore, 1) := by decide +kernel
theorem dX10_init_149 : decode cX10_init 149 = .ok (.iinc 1 1, 3) := by decide +kernel
theorem dX10_init_152 : decode cX10_init 152 = .ok (.goto (-22), 3) := by decide +kernel
theorem dX10_init_155 : decode cX10_init 155 = .ok (.return_, 1) := by decide +kernel
theorem dX10_thing_0 : decode cX10_thing 0 = .ok (.iload_n 1, 1) := by decide +kernel
theorem dX10_thing_1 : decode cX10_thing 1 = .ok (.getstatic 86, 3) := by decide +kernel
theorem dX10_thing_4 : decode cX10_thing 4 = .ok (.iconst 0, 1) := by decide +kernel
theorem dX10_thing_5 : decode cX10_thing 5 = .ok (.iaload, 1) := by decide +kernel
theorem dX10_thing_6 : decode cX10_thing 6 = .ok (.invokestatic 90, 3) := by decide +kernel
theorem dX10_thing_9 : decode cX10_thing 9 = .ok (.ifCond .eq 15, 3) := by decide +kernel
theorem dX10_thing_12 : decode cX10_thing 12 = .ok (.iload_n 2, 1) := by decide +kernel
theorem dX10_thing_13 : decode cX10_thing 13 = .ok (.getstatic 86, 3) := by decide +kernel
theorem dX10_thing_16 : decode cX10_thing 16 = .ok (.iconst 3, 1) := by decide +kernel
theorem dX10_thing_17 : decode cX10_thing 17 = .ok (.iaload, 1) := by decide +kernel
theorem dX10_thing_18 : decode cX10_thing 18 = .ok (.invokestatic 90, 3) := by decide +kernel
theorem dX10_thing_21 : decode cX10_thing 21 = .ok (.ifCond .ne 5, 3) := by decide +kernel
theorem dX10_thing_24 : decode cX10_thing 24 = .ok (.iconst (-1), 1) := by decide +kernel
theorem dX10_thing_25 : decode cX10_thing 25 = .ok (.ireturn, 1) := by decide +kernel
theorem dX10_thing_26 : decode cX10_thing 26 = .ok (.aload_n 0, 1) := by decide +kernel
theorem dX10_thing_27 : decode cX10_thing 27 = .ok (.getfield 10, 3) := by decide +kernel
theorem dX10_thing_30 : decode cX10_thing 30 = .ok (.getfield 94, 3) := by decide +kernel
theorem dX10_thing_33 : decode cX10_thing 33 = .ok (.bipush 6, 2) := by decide +kernel
theorem dX10_thing_35 : decode cX10_thing 35 = .ok (.if_icmp .lt 6, 3) := by decide +kernel
theorem dX10_thing_38 : decode cX10_thing 38 = .ok (.bipush (-3), 2) := by decide +kernel
theorem dX10_thing_40 : decode cX10_thing 40 = .ok (.ireturn, 1) := by decide +kernel
theorem dX10_thing_41 : decode cX10_thing 41 = .ok (.aload_n 0, 1) := by decide +kernel
theorem dX10_thing_42 : decode cX10_thing 42 = .ok (.getfield 10, 3) := by decide +kernel
theorem dX10_thing_45 : decode cX10_thing 45 = .ok (.iload_n 1, 1) := by decide +kernel
theorem dX10_thing_46 : decode cX10_thing 46 = .ok (.bipush 10, 2) := by decide +kernel
theorem dX10_thing_48 : decode cX10_thing 48 = .ok (.iconst 3, 1) := by decide +kernel
theorem dX10_thing_49 : decode cX10_thing 49 = .ok (.iload_n 2, 1) := by decide +kernel
theorem dX10_thing_50 : decode cX10_thing 50 = .ok (.invokevirtual 98, 3) := by decide +kernel
theorem dX10_thing_53 : decode cX10_thing 53 = .ok (.ireturn, 1) := by decide +kernel
theorem dX10_things_0 : decode cX10_things 0 = .ok (.iload_n 1, 1) := by decide +kernel
theorem dX10_things_1 : decode cX10_things 1 = .ok (.invokestatic 102, 3) := by decide +kernel
theorem dX10_things_4 : decode cX10_things 4 = .ok (.ifCond .eq 14, 3) := by decide +kernel
theorem dX10_things_7 : decode cX10_things 7 = .ok (.iload_n 3, 1) := by decide +kernel
theorem dX10_things_8 : decode cX10_things 8 = .ok (.iconst 1, 1) := by decide +kernel
theorem dX10_things_9 : decode cX10_things 9 = .ok (.if_icmp .lt 9, 3) := by decide +kernel
theorem dX10_things_12 : decode cX10_things 12 = .ok (.iload_n 3, 1) := by decide +kernel
theorem dX10_things_13 : decode cX10_things 13 = .ok (.bipush 6, 2) := by decide +kernel
theorem dX10_things_15 : decode cX10_things 15 = .ok (.if_icmp .le 5, 3) := by decide +kernel
theorem dX10_things_18 : decode cX10_things 18 = .ok (.iconst (-1), 1) := by decide +kernel
theorem dX10_things_19 : decode cX10_things 19 = .ok (.ireturn, 1) := by decide +kernel
theorem dX10_things_20 : decode cX10_things 20 = .ok (.aload_n 0, 1) := by decide +kernel
theorem dX10_things_21 : decode cX10_things 21 = .ok (.getfield 81, 3) := by decide +kernel
theorem dX10_things_24 : decode cX10_things 24 = .ok (.iload_n 1, 1) := by decide +kernel
theorem dX10_things_25 : decode cX10_things 25 = .ok (.aaload, 1) := by decide +kernel
theorem dX10_things_26 : decode cX10_things 26 = .ok (.astore 4, 2) := by decide +kernel
theorem dX10_things_28 : decode cX10_things 28 = .ok (.aload 4, 2) := by decide +kernel
theorem dX10_things_30 : decode cX10_things 30 = .ok (.getfield 106, 3) := by decide +kernel
theorem dX10_things_33 : decode cX10_things 33 = .ok (.ifCond .ne 5, 3) := by decide +kernel
theorem dX10_things_36 : decode cX10_things 36 = .ok (.iconst 0, 1) := by decide +kernel
theorem dX10_things_37 : decode cX10_things 37 = .ok (.ireturn, 1) := by decide +kernel
theorem dX10_things_38 : decode cX10_things 38 = .ok (.aload 4, 2) := by decide +kernel
theorem dX10_things_40 : decode cX10_things 40 = .ok (.iconst 0, 1) := by decide +kernel
theorem dX10_things_41 : decode cX10_things 41 = .ok (.invokevirtual 109, 3) := by decide +kernel
theorem dX10_things_44 : decode cX10_things 44 = .ok (.ifCond .ne 6, 3) := by decide +kernel
theorem dX10_things_47 : decode cX10_things 47 = .ok (.bipush (-12), 2) := by decide +kernel
theorem dX10_things_49 : decode cX10_things 49 = .ok (.ireturn, 1) := by decide +kernel
theorem dX10_things_50 : decode cX10_things 50 = .ok (.iconst 0, 1) := by decide +kernel
theorem dX10_things_51 : decode cX10_things 51 = .ok (.istore 5, 2) := by decide +kernel
theorem dX10_things_53 : decode cX10_things 53 = .ok (.iload 5, 2) := by decide +kernel
theorem dX10_things_55 : decode cX10_things 55 = .ok (.iload_n 3, 1) := by decide +kernel
theorem dX10_things_56 : decode cX10_things 56 = .ok (.if_icmp .ge 28, 3) := by decide +kernel
theorem dX10_things_59 : decode cX10_things 59 = .ok (.aload_n 0, 1) := by decide +kernel
theorem dX10_things_60 : decode cX10_things 60 = .ok (.aload 4, 2) := by decide +kernel
theorem dX10_things_62 : decode cX10_things 62 = .ok (.iload_n 2, 1) := by decide +kernel
theorem dX10_things_63 : decode cX10_things 63 = .ok (.i2l, 1) := by decide +kernel
theorem dX10_things_64 : decode cX10_things 64 = .ok (.ldc2_w 112, 3) := by decide +kernel
theorem dX10_things_67 : decode cX10_things 67 = .ok (.iload 5, 2) := by decide +kernel
theorem dX10_things_69 : decode cX10_things 69 = .ok (.i2l, 1) := by decide +kernel
theorem dX10_things_70 : decode cX10_things 70 = .ok (.lmul, 1) := by decide +kernel
theorem dX10_things_71 : decode cX10_things 71 = .ok (.ladd, 1) := by decide +kernel
theorem dX10_things_72 : decode cX10_things 72 = .ok (.invokevirtual 114, 3) := by decide +kernel
theorem dX10_things_75 : decode cX10_things 75 = .ok (.ifCond .eq 9, 3) := by decide +kernel
theorem dX10_things_78 : decode cX10_things 78 = .ok (.iinc 5 1, 3) := by decide +kernel
theorem dX10_things_81 : decode cX10_things 81 = .ok (.goto (-28), 3) := by decide +kernel
theorem dX10_things_84 : decode cX10_things 84 = .ok (.iload 5, 2) := by decide +kernel
theorem dX10_things_86 : decode cX10_things 86 = .ok (.ireturn, 1) := by decide +kernel
theorem dX10_mend_0 : decode cX10_mend 0 = .ok (.aload_n 0, 1) := by decide +kernel
theorem dX10_mend_1 : decode cX10_mend 1 = .ok (.getfield 10, 3) := by decide +kernel
theorem dX10_mend_4 : decode cX10_mend 4 = .ok (.iload_n 1, 1) := by decide +kernel
theorem dX10_mend_5 : decode cX10_mend 5 = .ok (.iload_n 2, 1) := by decide +kernel
theorem dX10_mend_6 : decode cX10_mend 6 = .ok (.invokevirtual 118, 3) := by decide +kernel
theorem dX10_mend_9 : decode cX10_mend 9 = .ok (.istore 4, 2) := by decide +kernel
theorem dX10_mend_11 : decode cX10_mend 11 = .ok (.iload 4, 2) := by decide +kernel
theorem dX10_mend_13 : decode cX10_mend 13 = .ok (.ifCond .lt 18, 3) := by decide +kernel
theorem dX10_mend_16 : decode cX10_mend 16 = .ok (.iload_n 3, 1) := by decide +kernel
theorem dX10_mend_17 : decode cX10_mend 17 = .ok (.aload_n 0, 1) := by decide +kernel
theorem dX10_mend_18 : decode cX10_mend 18 = .ok (.getfield 10, 3) := by decide +kernel
theorem dX10_mend_21 : decode cX10_mend 21 = .ok (.iload_n 2, 1) := by decide +kernel
theorem dX10_mend_22 : decode cX10_mend 22 = .ok (.invokevirtual 122, 3) := by decide +kernel
theorem dX10_mend_25 : decode cX10_mend 25 = .ok (.invokestatic 90, 3) := by decide +kernel
theorem dX10_mend_28 : decode cX10_mend 28 = .ok (.ifCond .ne 5, 3) := by decide +kernel
theorem dX10_mend_31 : decode cX10_mend 31 = .ok (.iconst (-1), 1) := by decide +kernel
theorem dX10_mend_32 : decode cX10_mend 32 = .ok (.ireturn, 1) := by decide +kernel
theorem dX10_mend_33 : decode cX10_mend 33 = .ok (.aload_n 0, 1) := by decide +kernel
theorem dX10_mend_34 : decode cX10_mend 34 = .ok (.getfield 10, 3) := by decide +kernel
theorem dX10_mend_37 : decode cX10_mend 37 = .ok (.iload 4, 2) := by decide +kernel
theorem dX10_mend_39 : decode cX10_mend 39 = .ok (.invokevirtual 126, 3) := by decide +kernel
theorem dX10_mend_42 : decode cX10_mend 42 = .ok (.istore 5, 2) := by decide +kernel
theorem dX10_mend_44 : decode cX10_mend 44 = .ok (.iload 5, 2) := by decide +kernel
theorem dX10_mend_46 : decode cX10_mend 46 = .ok (.iload_n 3, 1) := by decide +kernel
theorem dX10_mend_47 : decode cX10_mend 47 = .ok (.if_icmp .eq 25, 3) := by decide +kernel
theorem dX10_mend_50 : decode cX10_mend 50 = .ok (.aload_n 0, 1) := by decide +kernel
theorem dX10_mend_51 : decode cX10_mend 51 = .ok (.getfield 19, 3) := by decide +kernel
theorem dX10_mend_54 : decode cX10_mend 54 = .ok (.iload 4, 2) := by decide +kernel
theorem dX10_mend_56 : decode cX10_mend 56 = .ok (.iload 5, 2) := by decide +kernel
theorem dX10_mend_58 : decode cX10_mend 58 = .ok (.iload_n 3, 1) := by decide +kernel
theorem dX10_mend_59 : decode cX10_mend 59 = .ok (.invokevirtual 129, 3) := by decide +kernel
theorem dX10_mend_62 : decode cX10_mend 62 = .ok (.aload_n 0, 1) := by decide +kernel
theorem dX10_mend_63 : decode cX10_mend 63 = .ok (.getfield 10, 3) := by decide +kernel
theorem dX10_mend_66 : decode cX10_mend 66 = .ok (.iload 4, 2) := by decide +kernel
theorem dX10_mend_68 : decode cX10_mend 68 = .ok (.iload_n 3, 1) := by decide +kernel
theorem dX10_mend_69 : decode cX10_mend 69 = .ok (.invokevirtual 133, 3) := by decide +kernel
theorem dX10_mend_72 : decode cX10_mend 72 = .ok (.iload 5, 2) := by decide +kernel
theorem dX10_mend_74 : decode cX10_mend 74 = .ok (.ireturn, 1) := by decide +kernel
theorem dX10_of_0 : decode cX10_of 0 = .ok (.aload_n 0, 1) := by decide +kernel
theorem dX10_of_1 : decode cX10_of 1 = .ok (.getfield 10, 3) := by decide +kernel
theorem dX10_of_4 : decode cX10_of 4 = .ok (.iload_n 1, 1) := by decide +kernel
theorem dX10_of_5 : decode cX10_of 5 = .ok (.iload_n 2, 1) := by decide +kernel
theorem dX10_of_6 : decode cX10_of 6 = .ok (.invokevirtual 118, 3) := by decide +kernel
theorem dX10_of_9 : decode cX10_of 9 = .ok (.istore_n 3, 1) := by decide +kernel
theorem dX10_of_10 : decode cX10_of 10 = .ok (.iload_n 3, 1) := by decide +kernel
theorem dX10_of_11 : decode cX10_of 11 = .ok (.ifCond .lt 12, 3) := by decide +kernel
theorem dX10_of_14 : decode cX10_of 14 = .ok (.aload_n 0, 1) := by decide +kernel
theorem dX10_of_15 : decode cX10_of 15 = .ok (.getfield 10, 3) := by decide +kernel
theorem dX10_of_18 : decode cX10_of 18 = .ok (.iload_n 3, 1) := by decide +kernel
theorem dX10_of_19 : decode cX10_of 19 = .ok (.invokevirtual 126, 3) := by decide +kernel
theorem dX10_of_22 : decode cX10_of 22 = .ok (.ireturn, 1) := by decide +kernel
theorem dX10_of_23 : decode cX10_of 23 = .ok (.iload_n 2, 1) := by decide +kernel
theorem dX10_of_24 : decode cX10_of 24 = .ok (.bipush 10, 2) := by decide +kernel
theorem dX10_of_26 : decode cX10_of 26 = .ok (.if_icmp .ne 21, 3) := by decide +kernel
theorem dX10_of_29 : decode cX10_of 29 = .ok (.aload_n 0, 1) := by decide +kernel
theorem dX10_of_30 : decode cX10_of 30 = .ok (.iload_n 1, 1) := by decide +kernel
theorem dX10_of_31 : decode cX10_of 31 = .ok (.invokevirtual 137, 3) := by decide +kernel
theorem dX10_of_34 : decode cX10_of 34 = .ok (.ifCond .eq 13, 3) := by decide +kernel
theorem dX10_of_37 : decode cX10_of 37 = .ok (.aload_n 0, 1) := by decide +kernel
theorem dX10_of_38 : decode cX10_of 38 = .ok (.getfield 26, 3) := by decide +kernel
theorem dX10_of_41 : decode cX10_of 41 = .ok (.getfield 140, 3) := by decide +kernel
theorem dX10_of_44 : decode cX10_of 44 = .ok (.iload_n 1, 1) := by decide +kernel
theorem dX10_of_45 : decode cX10_of 45 = .ok (.iaload, 1) := by decide +kernel
theorem dX10_of_46 : decode cX10_of 46 = .ok (.ireturn, 1) := by decide +kernel
theorem dX10_of_47 : decode cX10_of 47 = .ok (.iload_n 1, 1) := by decide +kernel
theorem dX10_of_48 : decode cX10_of 48 = .ok (.ifCond .ne 17, 3) := by decide +kernel
theorem dX10_of_51 : decode cX10_of 51 = .ok (.iload_n 2, 1) := by decide +kernel
theorem dX10_of_52 : decode cX10_of 52 = .ok (.bipush 11, 2) := by decide +kernel
theorem dX10_of_54 : decode cX10_of 54 = .ok (.if_icmp .ne 11, 3) := by decide +kernel
theorem dX10_of_57 : decode cX10_of 57 = .ok (.aload_n 0, 1) := by decide +kernel
theorem dX10_of_58 : decode cX10_of 58 = .ok (.getfield 26, 3) := by decide +kernel
theorem dX10_of_61 : decode cX10_of 61 = .ok (.getfield 143, 3) := by decide +kernel
theorem dX10_of_64 : decode cX10_of 64 = .ok (.ireturn, 1) := by decide +kernel
theorem dX10_of_65 : decode cX10_of 65 = .ok (.iload_n 1, 1) := by decide +kernel
theorem dX10_of_66 : decode cX10_of 66 = .ok (.ifCond .ne 17, 3) := by decide +kernel
theorem dX10_of_69 : decode cX10_of 69 = .ok (.iload_n 2, 1) := by decide +kernel
theorem dX10_of_70 : decode cX10_of 70 = .ok (.bipush 12, 2) := by decide +kernel
theorem dX10_of_72 : decode cX10_of 72 = .ok (.if_icmp .ne 11, 3) := by decide +kernel
theorem dX10_of_75 : decode cX10_of 75 = .ok (.aload_n 0, 1) := by decide +kernel
theorem dX10_of_76 : decode cX10_of 76 = .ok (.getfield 26, 3) := by decide +kernel
theorem dX10_of_79 : decode cX10_of 79 = .ok (.getfield 146, 3) := by decide +kernel
theorem dX10_of_82 : decode cX10_of 82 = .ok (.ireturn, 1) := by decide +kernel
theorem dX10_of_83 : decode cX10_of 83 = .ok (.iconst (-1), 1) := by decide +kernel
theorem dX10_of_84 : decode cX10_of 84 = .ok (.ireturn, 1) := by decide +kernel
theorem dX10_feed_0 : decode cX10_feed 0 = .ok (.iload_n 1, 1) := by decide +kernel
theorem dX10_feed_1 : decode cX10_feed 1 = .ok (.sipush 255, 3) := by decide +kernel
theorem dX10_feed_4 : decode cX10_feed 4 = .ok (.invokestatic 90, 3) := by decide +kernel
theorem dX10_feed_7 : decode cX10_feed 7 = .ok (.ifCond .ne 5, 3) := by decide +kernel
theorem dX10_feed_10 : decode cX10_feed 10 = .ok (.iconst (-1), 1) := by decide +kernel
theorem dX10_feed_11 : decode cX10_feed 11 = .ok (.ireturn, 1) := by decide +kernel
theorem dX10_feed_12 : decode cX10_feed 12 = .ok (.aload_n 0, 1) := by decide +kernel
theorem dX10_feed_13 : decode cX10_feed 13 = .ok (.getfield 40, 3) := by decide +kernel
theorem dX10_feed_16 : decode cX10_feed 16 = .ok (.getfield 149, 3) := by decide +kernel
theorem dX10_feed_19 : decode cX10_feed 19 = .ok (.bipush 120, 2) := by decide +kernel
theorem dX10_feed_21 : decode cX10_feed 21 = .ok (.if_icmp .lt 6, 3) := by decide +kernel
theorem dX10_feed_24 : decode cX10_feed 24 = .ok (.bipush (-3), 2) := by decide +kernel
theorem dX10_feed_26 : decode cX10_feed 26 = .ok (.ireturn, 1) := by decide +kernel
theorem dX10_feed_27 : decode cX10_feed 27 = .ok (.aload_n 0, 1) := by decide +kernel
theorem dX10_feed_28 : decode cX10_feed 28 = .ok (.getfield 40, 3) := by decide +kernel
theorem dX10_feed_31 : decode cX10_feed 31 = .ok (.iload_n 1, 1) := by decide +kernel
theorem dX10_feed_32 : decode cX10_feed 32 = .ok (.invokevirtual 152, 3) := by decide +kernel
theorem dX10_feed_35 : decode cX10_feed 35 = .ok (.ireturn, 1) := by decide +kernel
theorem dX10_law_0 : decode cX10_law 0 = .ok (.aload_n 0, 1) := by decide +kernel
theorem dX10_law_1 : decode cX10_law 1 = .ok (.getfield 40, 3) := by decide +kernel
theorem dX10_law_4 : decode cX10_law 4 = .ok (.invokevirtual 155, 3) := by decide +kernel
theorem dX10_law_7 : decode cX10_law 7 = .ok (.istore_n 1, 1) := by decide +kernel
theorem dX10_law_8 : decode cX10_law 8 = .ok (.iload_n 1, 1) := by decide +kernel
theorem dX10_law_9 : decode cX10_law 9 = .ok (.ifCond .ge 7, 3) := by decide +kernel
theorem dX10_law_12 : decode cX10_law 12 = .ok (.iconst 1, 1) := by decide +kernel
theorem dX10_law_13 : decode cX10_law 13 = .ok (.goto 7, 3) := by decide +kernel
theorem dX10_law_16 : decode cX10_law 16 = .ok (.bipush (-100), 2) := by decide +kernel
theorem dX10_law_18 : decode cX10_law 18 = .ok (.iload_n 1, 1) := by decide +kernel
theorem dX10_law_19 : decode cX10_law 19 = .ok (.isub, 1) := by decide +kernel
theorem dX10_law_20 : decode cX10_law 20 = .ok (.ireturn, 1) := by decide +kernel
theorem dX10_open_0 : decode cX10_open 0 = .ok (.aload_n 0, 1) := by decide +kernel
theorem dX10_open_1 : decode cX10_open 1 = .ok (.iload_n 1, 1) := by decide +kernel
theorem dX10_open_2 : decode cX10_open 2 = .ok (.invokevirtual 137, 3) := by decide +kernel
theorem dX10_open_5 : decode cX10_open 5 = .ok (.ifCond .eq 19, 3) := by decide +kernel
theorem dX10_open_8 : decode cX10_open 8 = .ok (.iload_n 2, 1) := by decide +kernel
theorem dX10_open_9 : decode cX10_open 9 = .ok (.iconst 2, 1) := by decide +kernel
theorem dX10_open_10 : decode cX10_open 10 = .ok (.invokestatic 90, 3) := by decide +kernel
theorem dX10_open_13 : decode cX10_open 13 = .ok (.ifCond .eq 11, 3) := by decide +kernel
theorem dX10_open_16 : decode cX10_open 16 = .ok (.iload_n 3, 1) := by decide +kernel
theorem dX10_open_17 : decode cX10_open 17 = .ok (.iconst 1, 1) := by decide +kernel
theorem dX10_open_18 : decode cX10_open 18 = .ok (.invokestatic 90, 3) := by decide +kernel
theorem dX10_open_21 : decode cX10_open 21 = .ok (.ifCond .ne 7, 3) := by decide +kernel
theorem dX10_open_24 : decode cX10_open 24 = .ok (.ldc2_w 159, 3) := by decide +kernel
theorem dX10_open_27 : decode cX10_open 27 = .ok (.lreturn, 1) := by decide +kernel
theorem dX10_open_28 : decode cX10_open 28 = .ok (.aload_n 0, 1) := by decide +kernel
theorem dX10_open_29 : decode cX10_open 29 = .ok (.iload_n 1, 1) := by decide +kernel
theorem dX10_open_30 : decode cX10_open 30 = .ok (.iload_n 2, 1) := by decide +kernel
theorem dX10_open_31 : decode cX10_open 31 = .ok (.aload_n 0, 1) := by decide +kernel
theorem dX10_open_32 : decode cX10_open 32 = .ok (.getfield 47, 3) := by decide +kernel
theorem dX10_open_35 : decode cX10_open 35 = .ok (.invokevirtual 161, 3) := by decide +kernel
theorem dX10_open_38 : decode cX10_open 38 = .ok (.ifCond .eq 14, 3) := by decide +kernel
theorem dX10_open_41 : decode cX10_open 41 = .ok (.aload_n 0, 1) := by decide +kernel
theorem dX10_open_42 : decode cX10_open 42 = .ok (.getfield 47, 3) := by decide +kernel
theorem dX10_open_45 : decode cX10_open 45 = .ok (.iload_n 3, 1) := by decide +kernel
theorem dX10_open_46 : decode cX10_open 46 = .ok (.invokevirtual 165, 3) := by decide +kernel
theorem dX10_open_49 : decode cX10_open 49 = .ok (.goto 6, 3) := by decide +kernel
theorem dX10_open_52 : decode cX10_open 52 = .ok (.ldc2_w 169, 3) := by decide +kernel
theorem dX10_open_55 : decode cX10_open 55 = .ok (.lreturn, 1) := by decide +kernel
theorem dX10_pays_0 : decode cX10_pays 0 = .ok (.aload_n 0, 1) := by decide +kernel
theorem dX10_pays_1 : decode cX10_pays 1 = .ok (.iload_n 1, 1) := by decide +kernel
theorem dX10_pays_2 : decode cX10_pays 2 = .ok (.iconst 2, 1) := by decide +kernel
theorem dX10_pays_3 : decode cX10_pays 3 = .ok (.invokevirtual 171, 3) := by decide +kernel
theorem dX10_pays_6 : decode cX10_pays 6 = .ok (.ifCond .eq 12, 3) := by decide +kernel
theorem dX10_pays_9 : decode cX10_pays 9 = .ok (.iload_n 2, 1) := by decide +kernel
theorem dX10_pays_10 : decode cX10_pays 10 = .ok (.bipush 99, 2) := by decide +kernel
theorem dX10_pays_12 : decode cX10_pays 12 = .ok (.invokestatic 90, 3) := by decide +kernel
theorem dX10_pays_15 : decode cX10_pays 15 = .ok (.ifCond .ne 5, 3) := by decide +kernel
theorem dX10_pays_18 : decode cX10_pays 18 = .ok (.iconst (-1), 1) := by decide +kernel
theorem dX10_pays_19 : decode cX10_pays 19 = .ok (.ireturn, 1) := by decide +kernel
theorem dX10_pays_20 : decode cX10_pays 20 = .ok (.aload_n 0, 1) := by decide +kernel
theorem dX10_pays_21 : decode cX10_pays 21 = .ok (.iload_n 1, 1) := by decide +kernel
theorem dX10_pays_22 : decode cX10_pays 22 = .ok (.bipush 10, 2) := by decide +kernel
theorem dX10_pays_24 : decode cX10_pays 24 = .ok (.idiv, 1) := by decide +kernel
theorem dX10_pays_25 : decode cX10_pays 25 = .ok (.iload_n 1, 1) := by decide +kernel
theorem dX10_pays_26 : decode cX10_pays 26 = .ok (.bipush 10, 2) := by decide +kernel
theorem dX10_pays_28 : decode cX10_pays 28 = .ok (.irem, 1) := by decide +kernel
theorem dX10_pays_29 : decode cX10_pays 29 = .ok (.aload_n 0, 1) := by decide +kernel
theorem dX10_pays_30 : decode cX10_pays 30 = .ok (.getfield 47, 3) := by decide +kernel
theorem dX10_pays_33 : decode cX10_pays 33 = .ok (.invokevirtual 161, 3) := by decide +kernel
theorem dX10_pays_36 : decode cX10_pays 36 = .ok (.ifCond .ne 6, 3) := by decide +kernel
theorem dX10_pays_39 : decode cX10_pays 39 = .ok (.bipush (-2), 2) := by decide +kernel
theorem dX10_pays_41 : decode cX10_pays 41 = .ok (.ireturn, 1) := by decide +kernel
theorem dX10_pays_42 : decode cX10_pays 42 = .ok (.aload_n 0, 1) := by decide +kernel
theorem dX10_pays_43 : decode cX10_pays 43 = .ok (.aload_n 0, 1) := by decide +kernel
theorem dX10_pays_44 : decode cX10_pays 44 = .ok (.getfield 47, 3) := by decide +kernel
theorem dX10_pays_47 : decode cX10_pays 47 = .ok (.iload_n 1, 1) := by decide +kernel
theorem dX10_pays_48 : decode cX10_pays 48 = .ok (.bipush 10, 2) := by decide +kernel
theorem dX10_pays_50 : decode cX10_pays 50 = .ok (.idiv, 1) := by decide +kernel
theorem dX10_pays_51 : decode cX10_pays 51 = .ok (.iload_n 2, 1) := by decide +kernel
theorem dX10_pays_52 : decode cX10_pays 52 = .ok (.invokevirtual 174, 3) := by decide +kernel
theorem dX10_pays_55 : decode cX10_pays 55 = .ok (.ifCond .eq 7, 3) := by decide +kernel
theorem dX10_pays_58 : decode cX10_pays 58 = .ok (.iconst 1, 1) := by decide +kernel
theorem dX10_pays_59 : decode cX10_pays 59 = .ok (.goto 4, 3) := by decide +kernel
theorem dX10_pays_62 : decode cX10_pays 62 = .ok (.iconst 0, 1) := by decide +kernel
theorem dX10_pays_63 : decode cX10_pays 63 = .ok (.ireturn, 1) := by decide +kernel
theorem dX10_worth_0 : decode cX10_worth 0 = .ok (.aload_n 0, 1) := by decide +kernel
theorem dX10_worth_1 : decode cX10_worth 1 = .ok (.iload_n 1, 1) := by decide +kernel
theorem dX10_worth_2 : decode cX10_worth 2 = .ok (.iconst 2, 1) := by decide +kernel
theorem dX10_worth_3 : decode cX10_worth 3 = .ok (.invokevirtual 171, 3) := by decide +kernel
theorem dX10_worth_6 : decode cX10_worth 6 = .ok (.ifCond .eq 20, 3) := by decide +kernel
theorem dX10_worth_9 : decode cX10_worth 9 = .ok (.iload_n 2, 1) := by decide +kernel
theorem dX10_worth_10 : decode cX10_worth 10 = .ok (.bipush 99, 2) := by decide +kernel
theorem dX10_worth_12 : decode cX10_worth 12 = .ok (.invokestatic 90, 3) := by decide +kernel
theorem dX10_worth_15 : decode cX10_worth 15 = .ok (.ifCond .eq 11, 3) := by decide +kernel
theorem dX10_worth_18 : decode cX10_worth 18 = .ok (.iload_n 3, 1) := by decide +kernel
theorem dX10_worth_19 : decode cX10_worth 19 = .ok (.iconst 1, 1) := by decide +kernel
theorem dX10_worth_20 : decode cX10_worth 20 = .ok (.invokestatic 90, 3) := by decide +kernel
theorem dX10_worth_23 : decode cX10_worth 23 = .ok (.ifCond .ne 7, 3) := by decide +kernel
theorem dX10_worth_26 : decode cX10_worth 26 = .ok (.ldc2_w 159, 3) := by decide +kernel
theorem dX10_worth_29 : decode cX10_worth 29 = .ok (.lreturn, 1) := by decide +kernel
theorem dX10_worth_30 : decode cX10_worth 30 = .ok (.aload_n 0, 1) := by decide +kernel
theorem dX10_worth_31 : decode cX10_worth 31 = .ok (.iload_n 1, 1) := by decide +kernel
theorem dX10_worth_32 : decode cX10_worth 32 = .ok (.bipush 10, 2) := by decide +kernel
theorem dX10_worth_34 : decode cX10_worth 34 = .ok (.idiv, 1) := by decide +kernel
theorem dX10_worth_35 : decode cX10_worth 35 = .ok (.iload_n 1, 1) := by decide +kernel
theorem dX10_worth_36 : decode cX10_worth 36 = .ok (.bipush 10, 2) := by decide +kernel
theorem dX10_worth_38 : decode cX10_worth 38 = .ok (.irem, 1) := by decide +kernel
theorem dX10_worth_39 : decode cX10_worth 39 = .ok (.aload_n 0, 1) := by decide +kernel
theorem dX10_worth_40 : decode cX10_worth 40 = .ok (.getfield 47, 3) := by decide +kernel
theorem dX10_worth_43 : decode cX10_worth 43 = .ok (.invokevirtual 161, 3) := by decide +kernel
theorem dX10_worth_46 : decode cX10_worth 46 = .ok (.ifCond .ne 7, 3) := by decide +kernel
theorem dX10_worth_49 : decode cX10_worth 49 = .ok (.ldc2_w 169, 3) := by decide +kernel
theorem dX10_worth_52 : decode cX10_worth 52 = .ok (.lreturn, 1) := by decide +kernel
theorem dX10_worth_53 : decode cX10_worth 53 = .ok (.aload_n 0, 1) := by decide +kernel
theorem dX10_worth_54 : decode cX10_worth 54 = .ok (.getfield 10, 3) := by decide +kernel
theorem dX10_worth_57 : decode cX10_worth 57 = .ok (.iconst 3, 1) := by decide +kernel
theorem dX10_worth_58 : decode cX10_worth 58 = .ok (.iload_n 1, 1) := by decide +kernel
theorem dX10_worth_59 : decode cX10_worth 59 = .ok (.bipush 10, 2) := by decide +kernel
theorem dX10_worth_61 : decode cX10_worth 61 = .ok (.idiv, 1) := by decide +kernel
theorem dX10_worth_62 : decode cX10_worth 62 = .ok (.invokevirtual 178, 3) := by decide +kernel
theorem dX10_worth_65 : decode cX10_worth 65 = .ok (.i2l, 1) := by decide +kernel
theorem dX10_worth_66 : decode cX10_worth 66 = .ok (.lstore 4, 2) := by decide +kernel
theorem dX10_worth_68 : decode cX10_worth 68 = .ok (.aload_n 0, 1) := by decide +kernel
theorem dX10_worth_69 : decode cX10_worth 69 = .ok (.getfield 47, 3) := by decide +kernel
theorem dX10_worth_72 : decode cX10_worth 72 = .ok (.aload_n 0, 1) := by decide +kernel
theorem dX10_worth_73 : decode cX10_worth 73 = .ok (.getfield 47, 3) := by decide +kernel
theorem dX10_worth_76 : decode cX10_worth 76 = .ok (.getfield 181, 3) := by decide +kernel
theorem dX10_worth_79 : decode cX10_worth 79 = .ok (.lload 4, 2) := by decide +kernel
theorem dX10_worth_81 : decode cX10_worth 81 = .ok (.lmul, 1) := by decide +kernel
theorem dX10_worth_82 : decode cX10_worth 82 = .ok (.aload_n 0, 1) := by decide +kernel
theorem dX10_worth_83 : decode cX10_worth 83 = .ok (.iload_n 2, 1) := by decide +kernel
theorem dX10_worth_84 : decode cX10_worth 84 = .ok (.invokevirtual 185, 3) := by decide +kernel
theorem dX10_worth_87 : decode cX10_worth 87 = .ok (.i2l, 1) := by decide +kernel
theorem dX10_worth_88 : decode cX10_worth 88 = .ok (.aload_n 0, 1) := by decide +kernel
theorem dX10_worth_89 : decode cX10_worth 89 = .ok (.getfield 47, 3) := by decide +kernel
theorem dX10_worth_92 : decode cX10_worth 92 = .ok (.getfield 188, 3) := by decide +kernel
theorem dX10_worth_95 : decode cX10_worth 95 = .ok (.lmul, 1) := by decide +kernel
theorem dX10_worth_96 : decode cX10_worth 96 = .ok (.lsub, 1) := by decide +kernel
theorem dX10_worth_97 : decode cX10_worth 97 = .ok (.aload_n 0, 1) := by decide +kernel
theorem dX10_worth_98 : decode cX10_worth 98 = .ok (.getfield 47, 3) := by decide +kernel
theorem dX10_worth_101 : decode cX10_worth 101 = .ok (.getfield 188, 3) := by decide +kernel
theorem dX10_worth_104 : decode cX10_worth 104 = .ok (.invokevirtual 191, 3) := by decide +kernel
theorem dX10_worth_107 : decode cX10_worth 107 = .ok (.pop, 1) := by decide +kernel
theorem dX10_worth_108 : decode cX10_worth 108 = .ok (.aload_n 0, 1) := by decide +kernel
theorem dX10_worth_109 : decode cX10_worth 109 = .ok (.getfield 47, 3) := by decide +kernel
theorem dX10_worth_112 : decode cX10_worth 112 = .ok (.iload_n 3, 1) := by decide +kernel
theorem dX10_worth_113 : decode cX10_worth 113 = .ok (.invokevirtual 165, 3) := by decide +kernel
theorem dX10_worth_116 : decode cX10_worth 116 = .ok (.lreturn, 1) := by decide +kernel
theorem dX10_howFar_0 : decode cX10_howFar 0 = .ok (.aload_n 0, 1) := by decide +kernel
theorem dX10_howFar_1 : decode cX10_howFar 1 = .ok (.iload_n 1, 1) := by decide +kernel
theorem dX10_howFar_2 : decode cX10_howFar 2 = .ok (.iconst 2, 1) := by decide +kernel
theorem dX10_howFar_3 : decode cX10_howFar 3 = .ok (.invokevirtual 171, 3) := by decide +kernel
theorem dX10_howFar_6 : decode cX10_howFar 6 = .ok (.ifCond .ne 5, 3) := by decide +kernel
theorem dX10_howFar_9 : decode cX10_howFar 9 = .ok (.iconst (-1), 1) := by decide +kernel
theorem dX10_howFar_10 : decode cX10_howFar 10 = .ok (.ireturn, 1) := by decide +kernel
theorem dX10_howFar_11 : decode cX10_howFar 11 = .ok (.aload_n 0, 1) := by decide +kernel
theorem dX10_howFar_12 : decode cX10_howFar 12 = .ok (.iload_n 1, 1) := by decide +kernel
theorem dX10_howFar_13 : decode cX10_howFar 13 = .ok (.bipush 10, 2) := by decide +kernel
theorem dX10_howFar_15 : decode cX10_howFar 15 = .ok (.idiv, 1) := by decide +kernel
theorem dX10_howFar_16 : decode cX10_howFar 16 = .ok (.iload_n 1, 1) := by decide +kernel
theorem dX10_howFar_17 : decode cX10_howFar 17 = .ok (.bipush 10, 2) := by decide +kernel
theorem dX10_howFar_19 : decode cX10_howFar 19 = .ok (.irem, 1) := by decide +kernel
theorem dX10_howFar_20 : decode cX10_howFar 20 = .ok (.aload_n 0, 1) := by decide +kernel
theorem dX10_howFar_21 : decode cX10_howFar 21 = .ok (.getfield 47, 3) := by decide +kernel
theorem dX10_howFar_24 : decode cX10_howFar 24 = .ok (.invokevirtual 161, 3) := by decide +kernel
theorem dX10_howFar_27 : decode cX10_howFar 27 = .ok (.ifCond .ne 6, 3) := by decide +kernel
theorem dX10_howFar_30 : decode cX10_howFar 30 = .ok (.bipush (-2), 2) := by decide +kernel
theorem dX10_howFar_32 : decode cX10_howFar 32 = .ok (.ireturn, 1) := by decide +kernel
theorem dX10_howFar_33 : decode cX10_howFar 33 = .ok (.bipush 99, 2) := by decide +kernel
theorem dX10_howFar_35 : decode cX10_howFar 35 = .ok (.istore_n 2, 1) := by decide +kernel
theorem dX10_howFar_36 : decode cX10_howFar 36 = .ok (.iload_n 2, 1) := by decide +kernel
theorem dX10_howFar_37 : decode cX10_howFar 37 = .ok (.ifCond .lt 27, 3) := by decide +kernel
theorem dX10_howFar_40 : decode cX10_howFar 40 = .ok (.aload_n 0, 1) := by decide +kernel
theorem dX10_howFar_41 : decode cX10_howFar 41 = .ok (.aload_n 0, 1) := by decide +kernel
theorem dX10_howFar_42 : decode cX10_howFar 42 = .ok (.getfield 47, 3) := by decide +kernel
theorem dX10_howFar_45 : decode cX10_howFar 45 = .ok (.iload_n 1, 1) := by decide +kernel
theorem dX10_howFar_46 : decode cX10_howFar 46 = .ok (.bipush 10, 2) := by decide +kernel
theorem dX10_howFar_48 : decode cX10_howFar 48 = .ok (.idiv, 1) := by decide +kernel
theorem dX10_howFar_49 : decode cX10_howFar 49 = .ok (.iload_n 2, 1) := by decide +kernel
theorem dX10_howFar_50 : decode cX10_howFar 50 = .ok (.invokevirtual 174, 3) := by decide +kernel
theorem dX10_howFar_53 : decode cX10_howFar 53 = .ok (.ifCond .eq 5, 3) := by decide +kernel
theorem dX10_howFar_56 : decode cX10_howFar 56 = .ok (.iload_n 2, 1) := by decide +kernel
theorem dX10_howFar_57 : decode cX10_howFar 57 = .ok (.ireturn, 1) := by decide +kernel
theorem dX10_howFar_58 : decode cX10_howFar 58 = .ok (.iinc 2 (-1), 3) := by decide +kernel
theorem dX10_howFar_61 : decode cX10_howFar 61 = .ok (.goto (-25), 3) := by decide +kernel
theorem dX10_howFar_64 : decode cX10_howFar 64 = .ok (.bipush (-2), 2) := by decide +kernel
theorem dX10_howFar_66 : decode cX10_howFar 66 = .ok (.ireturn, 1) := by decide +kernel
theorem dX10_best_0 : decode cX10_best 0 = .ok (.aload_n 0, 1) := by decide +kernel
theorem dX10_best_1 : decode cX10_best 1 = .ok (.iload_n 1, 1) := by decide +kernel
theorem dX10_best_2 : decode cX10_best 2 = .ok (.invokevirtual 194, 3) := by decide +kernel
theorem dX10_best_5 : decode cX10_best 5 = .ok (.ifCond .eq 20, 3) := by decide +kernel
theorem dX10_best_8 : decode cX10_best 8 = .ok (.iload_n 2, 1) := by decide +kernel
theorem dX10_best_9 : decode cX10_best 9 = .ok (.bipush 99, 2) := by decide +kernel
theorem dX10_best_11 : decode cX10_best 11 = .ok (.invokestatic 90, 3) := by decide +kernel
theorem dX10_best_14 : decode cX10_best 14 = .ok (.ifCond .eq 11, 3) := by decide +kernel
theorem dX10_best_17 : decode cX10_best 17 = .ok (.iload_n 3, 1) := by decide +kernel
theorem dX10_best_18 : decode cX10_best 18 = .ok (.iconst 2, 1) := by decide +kernel
theorem dX10_best_19 : decode cX10_best 19 = .ok (.invokestatic 90, 3) := by decide +kernel
theorem dX10_best_22 : decode cX10_best 22 = .ok (.ifCond .ne 7, 3) := by decide +kernel
theorem dX10_best_25 : decode cX10_best 25 = .ok (.ldc2_w 159, 3) := by decide +kernel
theorem dX10_best_28 : decode cX10_best 28 = .ok (.lreturn, 1) := by decide +kernel
theorem dX10_best_29 : decode cX10_best 29 = .ok (.aload_n 0, 1) := by decide +kernel
theorem dX10_best_30 : decode cX10_best 30 = .ok (.iload_n 1, 1) := by decide +kernel
theorem dX10_best_31 : decode cX10_best 31 = .ok (.invokevirtual 197, 3) := by decide +kernel
theorem dX10_best_34 : decode cX10_best 34 = .ok (.ifCond .ne 7, 3) := by decide +kernel
theorem dX10_best_37 : decode cX10_best 37 = .ok (.ldc2_w 169, 3) := by decide +kernel
theorem dX10_best_40 : decode cX10_best 40 = .ok (.lreturn, 1) := by decide +kernel
theorem dX10_best_41 : decode cX10_best 41 = .ok (.aload_n 0, 1) := by decide +kernel
theorem dX10_best_42 : decode cX10_best 42 = .ok (.getfield 54, 3) := by decide +kernel
theorem dX10_best_45 : decode cX10_best 45 = .ok (.aload_n 0, 1) := by decide +kernel
theorem dX10_best_46 : decode cX10_best 46 = .ok (.iload_n 2, 1) := by decide +kernel
theorem dX10_best_47 : decode cX10_best 47 = .ok (.invokevirtual 185, 3) := by decide +kernel
theorem dX10_best_50 : decode cX10_best 50 = .ok (.i2l, 1) := by decide +kernel
theorem dX10_best_51 : decode cX10_best 51 = .ok (.aload_n 0, 1) := by decide +kernel
theorem dX10_best_52 : decode cX10_best 52 = .ok (.getfield 10, 3) := by decide +kernel
theorem dX10_best_55 : decode cX10_best 55 = .ok (.invokevirtual 200, 3) := by decide +kernel
theorem dX10_best_58 : decode cX10_best 58 = .ok (.invokevirtual 203, 3) := by decide +kernel
theorem dX10_best_61 : decode cX10_best 61 = .ok (.istore 4, 2) := by decide +kernel
theorem dX10_best_63 : decode cX10_best 63 = .ok (.iload_n 3, 1) := by decide +kernel
theorem dX10_best_64 : decode cX10_best 64 = .ok (.iconst 2, 1) := by decide +kernel
theorem dX10_best_65 : decode cX10_best 65 = .ok (.if_icmp .ne 7, 3) := by decide +kernel
theorem dX10_best_68 : decode cX10_best 68 = .ok (.iload 4, 2) := by decide +kernel
theorem dX10_best_70 : decode cX10_best 70 = .ok (.i2l, 1) := by decide +kernel
theorem dX10_best_71 : decode cX10_best 71 = .ok (.lreturn, 1) := by decide +kernel
theorem dX10_best_72 : decode cX10_best 72 = .ok (.aload_n 0, 1) := by decide +kernel
theorem dX10_best_73 : decode cX10_best 73 = .ok (.getfield 47, 3) := by decide +kernel
theorem dX10_best_76 : decode cX10_best 76 = .ok (.aload_n 0, 1) := by decide +kernel
theorem dX10_best_77 : decode cX10_best 77 = .ok (.getfield 54, 3) := by decide +kernel
theorem dX10_best_80 : decode cX10_best 80 = .ok (.iload 4, 2) := by decide +kernel
theorem dX10_best_82 : decode cX10_best 82 = .ok (.aload_n 0, 1) := by decide +kernel
theorem dX10_best_83 : decode cX10_best 83 = .ok (.iload_n 2, 1) := by decide +kernel
theorem dX10_best_84 : decode cX10_best 84 = .ok (.invokevirtual 185, 3) := by decide +kernel
theorem dX10_best_87 : decode cX10_best 87 = .ok (.i2l, 1) := by decide +kernel
theorem dX10_best_88 : decode cX10_best 88 = .ok (.aload_n 0, 1) := by decide +kernel
theorem dX10_best_89 : decode cX10_best 89 = .ok (.getfield 10, 3) := by decide +kernel
theorem dX10_best_92 : decode cX10_best 92 = .ok (.invokevirtual 200, 3) := by decide +kernel
theorem dX10_best_95 : decode cX10_best 95 = .ok (.invokevirtual 207, 3) := by decide +kernel
theorem dX10_best_98 : decode cX10_best 98 = .ok (.aload_n 0, 1) := by decide +kernel
theorem dX10_best_99 : decode cX10_best 99 = .ok (.getfield 54, 3) := by decide +kernel
theorem dX10_best_102 : decode cX10_best 102 = .ok (.getfield 211, 3) := by decide +kernel
theorem dX10_best_105 : decode cX10_best 105 = .ok (.invokevirtual 191, 3) := by decide +kernel
theorem dX10_best_108 : decode cX10_best 108 = .ok (.pop, 1) := by decide +kernel
theorem dX10_best_109 : decode cX10_best 109 = .ok (.aload_n 0, 1) := by decide +kernel
theorem dX10_best_110 : decode cX10_best 110 = .ok (.getfield 47, 3) := by decide +kernel
theorem dX10_best_113 : decode cX10_best 113 = .ok (.iload_n 3, 1) := by decide +kernel
theorem dX10_best_114 : decode cX10_best 114 = .ok (.invokevirtual 165, 3) := by decide +kernel
theorem dX10_best_117 : decode cX10_best 117 = .ok (.lreturn, 1) := by decide +kernel
theorem dX10_gone_0 : decode cX10_gone 0 = .ok (.aload_n 0, 1) := by decide +kernel
theorem dX10_gone_1 : decode cX10_gone 1 = .ok (.iload_n 1, 1) := by decide +kernel
theorem dX10_gone_2 : decode cX10_gone 2 = .ok (.invokevirtual 194, 3) := by decide +kernel
theorem dX10_gone_5 : decode cX10_gone 5 = .ok (.ifCond .eq 12, 3) := by decide +kernel
theorem dX10_gone_8 : decode cX10_gone 8 = .ok (.iload_n 2, 1) := by decide +kernel
theorem dX10_gone_9 : decode cX10_gone 9 = .ok (.bipush 99, 2) := by decide +kernel
theorem dX10_gone_11 : decode cX10_gone 11 = .ok (.invokestatic 90, 3) := by decide +kernel
theorem dX10_gone_14 : decode cX10_gone 14 = .ok (.ifCond .ne 5, 3) := by decide +kernel
theorem dX10_gone_17 : decode cX10_gone 17 = .ok (.iconst (-1), 1) := by decide +kernel
theorem dX10_gone_18 : decode cX10_gone 18 = .ok (.ireturn, 1) := by decide +kernel
theorem dX10_gone_19 : decode cX10_gone 19 = .ok (.aload_n 0, 1) := by decide +kernel
theorem dX10_gone_20 : decode cX10_gone 20 = .ok (.iload_n 1, 1) := by decide +kernel
theorem dX10_gone_21 : decode cX10_gone 21 = .ok (.invokevirtual 197, 3) := by decide +kernel
theorem dX10_gone_24 : decode cX10_gone 24 = .ok (.ifCond .ne 6, 3) := by decide +kernel
theorem dX10_gone_27 : decode cX10_gone 27 = .ok (.bipush (-2), 2) := by decide +kernel
theorem dX10_gone_29 : decode cX10_gone 29 = .ok (.ireturn, 1) := by decide +kernel
theorem dX10_gone_30 : decode cX10_gone 30 = .ok (.aload_n 0, 1) := by decide +kernel
theorem dX10_gone_31 : decode cX10_gone 31 = .ok (.getfield 54, 3) := by decide +kernel
theorem dX10_gone_34 : decode cX10_gone 34 = .ok (.invokevirtual 214, 3) := by decide +kernel
theorem dX10_gone_37 : decode cX10_gone 37 = .ok (.istore_n 3, 1) := by decide +kernel
theorem dX10_gone_38 : decode cX10_gone 38 = .ok (.iload_n 3, 1) := by decide +kernel
theorem dX10_gone_39 : decode cX10_gone 39 = .ok (.ifCond .ge 5, 3) := by decide +kernel
theorem dX10_gone_42 : decode cX10_gone 42 = .ok (.iconst 0, 1) := by decide +kernel
theorem dX10_gone_43 : decode cX10_gone 43 = .ok (.ireturn, 1) := by decide +kernel
theorem dX10_gone_44 : decode cX10_gone 44 = .ok (.aload_n 0, 1) := by decide +kernel
theorem dX10_gone_45 : decode cX10_gone 45 = .ok (.getfield 10, 3) := by decide +kernel
theorem dX10_gone_48 : decode cX10_gone 48 = .ok (.iconst 3, 1) := by decide +kernel
theorem dX10_gone_49 : decode cX10_gone 49 = .ok (.iload_n 3, 1) := by decide +kernel
theorem dX10_gone_50 : decode cX10_gone 50 = .ok (.invokevirtual 178, 3) := by decide +kernel
theorem dX10_gone_53 : decode cX10_gone 53 = .ok (.istore 4, 2) := by decide +kernel
theorem dX10_gone_55 : decode cX10_gone 55 = .ok (.aload_n 0, 1) := by decide +kernel
theorem dX10_gone_56 : decode cX10_gone 56 = .ok (.getfield 54, 3) := by decide +kernel
theorem dX10_gone_59 : decode cX10_gone 59 = .ok (.getfield 217, 3) := by decide +kernel
theorem dX10_gone_62 : decode cX10_gone 62 = .ok (.invokestatic 220, 3) := by decide +kernel
theorem dX10_gone_65 : decode cX10_gone 65 = .ok (.istore 5, 2) := by decide +kernel
theorem dX10_gone_67 : decode cX10_gone 67 = .ok (.aload_n 0, 1) := by decide +kernel
theorem dX10_gone_68 : decode cX10_gone 68 = .ok (.getfield 40, 3) := by decide +kernel
theorem dX10_gone_71 : decode cX10_gone 71 = .ok (.aload_n 0, 1) := by decide +kernel
theorem dX10_gone_72 : decode cX10_gone 72 = .ok (.getfield 54, 3) := by decide +kernel
theorem dX10_gone_75 : decode cX10_gone 75 = .ok (.getfield 225, 3) := by decide +kernel
theorem dX10_gone_78 : decode cX10_gone 78 = .ok (.iload_n 3, 1) := by decide +kernel
theorem dX10_gone_79 : decode cX10_gone 79 = .ok (.aaload, 1) := by decide +kernel
theorem dX10_gone_80 : decode cX10_gone 80 = .ok (.invokevirtual 229, 3) := by decide +kernel
theorem dX10_gone_83 : decode cX10_gone 83 = .ok (.iload 4, 2) := by decide +kernel
theorem dX10_gone_85 : decode cX10_gone 85 = .ok (.iload_n 2, 1) := by decide +kernel
theorem dX10_gone_86 : decode cX10_gone 86 = .ok (.aload_n 0, 1) := by decide +kernel
theorem dX10_gone_87 : decode cX10_gone 87 = .ok (.getfield 10, 3) := by decide +kernel
theorem dX10_gone_90 : decode cX10_gone 90 = .ok (.invokevirtual 232, 3) := by decide +kernel
theorem dX10_gone_93 : decode cX10_gone 93 = .ok (.aload_n 0, 1) := by decide +kernel
theorem dX10_gone_94 : decode cX10_gone 94 = .ok (.getfield 26, 3) := by decide +kernel
theorem dX10_gone_97 : decode cX10_gone 97 = .ok (.getfield 143, 3) := by decide +kernel
theorem dX10_gone_100 : decode cX10_gone 100 = .ok (.iload 5, 2) := by decide +kernel
theorem dX10_gone_102 : decode cX10_gone 102 = .ok (.invokevirtual 235, 3) := by decide +kernel
theorem dX10_gone_105 : decode cX10_gone 105 = .ok (.ifCond .eq 7, 3) := by decide +kernel
theorem dX10_gone_108 : decode cX10_gone 108 = .ok (.iconst 1, 1) := by decide +kernel
theorem dX10_gone_109 : decode cX10_gone 109 = .ok (.goto 4, 3) := by decide +kernel
theorem dX10_gone_112 : decode cX10_gone 112 = .ok (.iconst 0, 1) := by decide +kernel
theorem dX10_gone_113 : decode cX10_gone 113 = .ok (.ireturn, 1) := by decide +kernel
theorem dX10_plan_0 : decode cX10_plan 0 = .ok (.aload_n 0, 1) := by decide +kernel
theorem dX10_plan_1 : decode cX10_plan 1 = .ok (.iload_n 1, 1) := by decide +kernel
theorem dX10_plan_2 : decode cX10_plan 2 = .ok (.invokevirtual 194, 3) := by decide +kernel
theorem dX10_plan_5 : decode cX10_plan 5 = .ok (.ifCond .eq 38, 3) := by decide +kernel
theorem dX10_plan_8 : decode cX10_plan 8 = .ok (.iload_n 2, 1) := by decide +kernel
theorem dX10_plan_9 : decode cX10_plan 9 = .ok (.ifCond .lt 34, 3) := by decide +kernel
theorem dX10_plan_12 : decode cX10_plan 12 = .ok (.iload_n 2, 1) := by decide +kernel
theorem dX10_plan_13 : decode cX10_plan 13 = .ok (.bipush 64, 2) := by decide +kernel
theorem dX10_plan_15 : decode cX10_plan 15 = .ok (.idiv, 1) := by decide +kernel
theorem dX10_plan_16 : decode cX10_plan 16 = .ok (.bipush 99, 2) := by decide +kernel
theorem dX10_plan_18 : decode cX10_plan 18 = .ok (.invokestatic 90, 3) := by decide +kernel
theorem dX10_plan_21 : decode cX10_plan 21 = .ok (.ifCond .eq 22, 3) := by decide +kernel
theorem dX10_plan_24 : decode cX10_plan 24 = .ok (.aload_n 0, 1) := by decide +kernel
theorem dX10_plan_25 : decode cX10_plan 25 = .ok (.iload_n 2, 1) := by decide +kernel
theorem dX10_plan_26 : decode cX10_plan 26 = .ok (.bipush 64, 2) := by decide +kernel
theorem dX10_plan_28 : decode cX10_plan 28 = .ok (.irem, 1) := by decide +kernel
theorem dX10_plan_29 : decode cX10_plan 29 = .ok (.invokevirtual 239, 3) := by decide +kernel
theorem dX10_plan_32 : decode cX10_plan 32 = .ok (.ifCond .eq 11, 3) := by decide +kernel
theorem dX10_plan_35 : decode cX10_plan 35 = .ok (.iload_n 3, 1) := by decide +kernel
theorem dX10_plan_36 : decode cX10_plan 36 = .ok (.iconst 2, 1) := by decide +kernel
theorem dX10_plan_37 : decode cX10_plan 37 = .ok (.invokestatic 90, 3) := by decide +kernel
theorem dX10_plan_40 : decode cX10_plan 40 = .ok (.ifCond .ne 7, 3) := by decide +kernel
theorem dX10_plan_43 : decode cX10_plan 43 = .ok (.ldc2_w 159, 3) := by decide +kernel
theorem dX10_plan_46 : decode cX10_plan 46 = .ok (.lreturn, 1) := by decide +kernel
theorem dX10_plan_47 : decode cX10_plan 47 = .ok (.aload_n 0, 1) := by decide +kernel
theorem dX10_plan_48 : decode cX10_plan 48 = .ok (.iload_n 1, 1) := by decide +kernel
theorem dX10_plan_49 : decode cX10_plan 49 = .ok (.invokevirtual 197, 3) := by decide +kernel
theorem dX10_plan_52 : decode cX10_plan 52 = .ok (.ifCond .ne 7, 3) := by decide +kernel
theorem dX10_plan_55 : decode cX10_plan 55 = .ok (.ldc2_w 169, 3) := by decide +kernel
theorem dX10_plan_58 : decode cX10_plan 58 = .ok (.lreturn, 1) := by decide +kernel
theorem dX10_plan_59 : decode cX10_plan 59 = .ok (.aload_n 0, 1) := by decide +kernel
theorem dX10_plan_60 : decode cX10_plan 60 = .ok (.iload_n 2, 1) := by decide +kernel
theorem dX10_plan_61 : decode cX10_plan 61 = .ok (.bipush 64, 2) := by decide +kernel
theorem dX10_plan_63 : decode cX10_plan 63 = .ok (.idiv, 1) := by decide +kernel
theorem dX10_plan_64 : decode cX10_plan 64 = .ok (.invokevirtual 185, 3) := by decide +kernel
theorem dX10_plan_67 : decode cX10_plan 67 = .ok (.i2l, 1) := by decide +kernel
theorem dX10_plan_68 : decode cX10_plan 68 = .ok (.lstore 4, 2) := by decide +kernel
theorem dX10_plan_70 : decode cX10_plan 70 = .ok (.iconst 0, 1) := by decide +kernel
theorem dX10_plan_71 : decode cX10_plan 71 = .ok (.istore 6, 2) := by decide +kernel
theorem dX10_plan_73 : decode cX10_plan 73 = .ok (.ldc2_w 242, 3) := by decide +kernel
theorem dX10_plan_76 : decode cX10_plan 76 = .ok (.aload_n 0, 1) := by decide +kernel
theorem dX10_plan_77 : decode cX10_plan 77 = .ok (.getfield 54, 3) := by decide +kernel
theorem dX10_plan_80 : decode cX10_plan 80 = .ok (.getfield 244, 3) := by decide +kernel
theorem dX10_plan_83 : decode cX10_plan 83 = .ok (.lmul, 1) := by decide +kernel
theorem dX10_plan_84 : decode cX10_plan 84 = .ok (.lstore 7, 2) := by decide +kernel
theorem dX10_plan_86 : decode cX10_plan 86 = .ok (.ldc2_w 242, 3) := by decide +kernel
theorem dX10_plan_89 : decode cX10_plan 89 = .ok (.aload_n 0, 1) := by decide +kernel
theorem dX10_plan_90 : decode cX10_plan 90 = .ok (.getfield 54, 3) := by decide +kernel
theorem dX10_plan_93 : decode cX10_plan 93 = .ok (.getfield 211, 3) := by decide +kernel
theorem dX10_plan_96 : decode cX10_plan 96 = .ok (.lmul, 1) := by decide +kernel
theorem dX10_plan_97 : decode cX10_plan 97 = .ok (.lload 4, 2) := by decide +kernel
theorem dX10_plan_99 : decode cX10_plan 99 = .ok (.lmul, 1) := by decide +kernel
theorem dX10_plan_100 : decode cX10_plan 100 = .ok (.lload 7, 2) := by decide +kernel
theorem dX10_plan_102 : decode cX10_plan 102 = .ok (.lcmp, 1) := by decide +kernel
theorem dX10_plan_103 : decode cX10_plan 103 = .ok (.ifCond .ge 22, 3) := by decide +kernel
theorem dX10_plan_106 : decode cX10_plan 106 = .ok (.iconst 1, 1) := by decide +kernel
theorem dX10_plan_107 : decode cX10_plan 107 = .ok (.istore 6, 2) := by decide +kernel
theorem dX10_plan_109 : decode cX10_plan 109 = .ok (.ldc2_w 242, 3) := by decide +kernel
theorem dX10_plan_112 : decode cX10_plan 112 = .ok (.aload_n 0, 1) := by decide +kernel
theorem dX10_plan_113 : decode cX10_plan 113 = .ok (.getfield 54, 3) := by decide +kernel
theorem dX10_plan_116 : decode cX10_plan 116 = .ok (.getfield 211, 3) := by decide +kernel
theorem dX10_plan_119 : decode cX10_plan 119 = .ok (.lmul, 1) := by decide +kernel
theorem dX10_plan_120 : decode cX10_plan 120 = .ok (.lload 4, 2) := by decide +kernel
theorem dX10_plan_122 : decode cX10_plan 122 = .ok (.lmul, 1) := by decide +kernel
theorem dX10_plan_123 : decode cX10_plan 123 = .ok (.lstore 7, 2) := by decide +kernel
theorem dX10_plan_125 : decode cX10_plan 125 = .ok (.aload_n 0, 1) := by decide +kernel
theorem dX10_plan_126 : decode cX10_plan 126 = .ok (.getfield 54, 3) := by decide +kernel
theorem dX10_plan_129 : decode cX10_plan 129 = .ok (.lload 4, 2) := by decide +kernel
theorem dX10_plan_131 : decode cX10_plan 131 = .ok (.aload_n 0, 1) := by decide +kernel
theorem dX10_plan_132 : decode cX10_plan 132 = .ok (.getfield 10, 3) := by decide +kernel
theorem dX10_plan_135 : decode cX10_plan 135 = .ok (.invokevirtual 247, 3) := by decide +kernel
theorem dX10_plan_138 : decode cX10_plan 138 = .ok (.bipush 12, 2) := by decide +kernel
theorem dX10_plan_140 : decode cX10_plan 140 = .ok (.aload_n 0, 1) := by decide +kernel
theorem dX10_plan_141 : decode cX10_plan 141 = .ok (.getfield 26, 3) := by decide +kernel
theorem dX10_plan_144 : decode cX10_plan 144 = .ok (.getfield 146, 3) := by decide +kernel
theorem dX10_plan_147 : decode cX10_plan 147 = .ok (.isub, 1) := by decide +kernel
theorem dX10_plan_148 : decode cX10_plan 148 = .ok (.iload_n 2, 1) := by decide +kernel
theorem dX10_plan_149 : decode cX10_plan 149 = .ok (.bipush 64, 2) := by decide +kernel
theorem dX10_plan_151 : decode cX10_plan 151 = .ok (.irem, 1) := by decide +kernel
theorem dX10_plan_152 : decode cX10_plan 152 = .ok (.invokevirtual 250, 3) := by decide +kernel
theorem dX10_plan_155 : decode cX10_plan 155 = .ok (.lstore 9, 2) := by decide +kernel
theorem dX10_plan_157 : decode cX10_plan 157 = .ok (.lload 9, 2) := by decide +kernel
theorem dX10_plan_159 : decode cX10_plan 159 = .ok (.lload 7, 2) := by decide +kernel
theorem dX10_plan_161 : decode cX10_plan 161 = .ok (.lcmp, 1) := by decide +kernel
theorem dX10_plan_162 : decode cX10_plan 162 = .ok (.ifCond .ge 10, 3) := by decide +kernel
theorem dX10_plan_165 : decode cX10_plan 165 = .ok (.iconst 2, 1) := by decide +kernel
theorem dX10_plan_166 : decode cX10_plan 166 = .ok (.istore 6, 2) := by decide +kernel
theorem dX10_plan_168 : decode cX10_plan 168 = .ok (.lload 9, 2) := by decide +kernel
theorem dX10_plan_170 : decode cX10_plan 170 = .ok (.lstore 7, 2) := by decide +kernel
theorem dX10_plan_172 : decode cX10_plan 172 = .ok (.iload_n 3, 1) := by decide +kernel
theorem dX10_plan_173 : decode cX10_plan 173 = .ok (.iconst 2, 1) := by decide +kernel
theorem dX10_plan_174 : decode cX10_plan 174 = .ok (.if_icmp .ne 7, 3) := by decide +kernel
theorem dX10_plan_177 : decode cX10_plan 177 = .ok (.iload 6, 2) := by decide +kernel
theorem dX10_plan_179 : decode cX10_plan 179 = .ok (.i2l, 1) := by decide +kernel
theorem dX10_plan_180 : decode cX10_plan 180 = .ok (.lreturn, 1) := by decide +kernel
theorem dX10_plan_181 : decode cX10_plan 181 = .ok (.aload_n 0, 1) := by decide +kernel
theorem dX10_plan_182 : decode cX10_plan 182 = .ok (.getfield 47, 3) := by decide +kernel
theorem dX10_plan_185 : decode cX10_plan 185 = .ok (.lload 7, 2) := by decide +kernel
theorem dX10_plan_187 : decode cX10_plan 187 = .ok (.ldc2_w 242, 3) := by decide +kernel
theorem dX10_plan_190 : decode cX10_plan 190 = .ok (.aload_n 0, 1) := by decide +kernel
theorem dX10_plan_191 : decode cX10_plan 191 = .ok (.getfield 54, 3) := by decide +kernel
theorem dX10_plan_194 : decode cX10_plan 194 = .ok (.getfield 211, 3) := by decide +kernel
theorem dX10_plan_197 : decode cX10_plan 197 = .ok (.lmul, 1) := by decide +kernel
theorem dX10_plan_198 : decode cX10_plan 198 = .ok (.invokevirtual 191, 3) := by decide +kernel
theorem dX10_plan_201 : decode cX10_plan 201 = .ok (.pop, 1) := by decide +kernel
theorem dX10_plan_202 : decode cX10_plan 202 = .ok (.aload_n 0, 1) := by decide +kernel
theorem dX10_plan_203 : decode cX10_plan 203 = .ok (.getfield 47, 3) := by decide +kernel
theorem dX10_plan_206 : decode cX10_plan 206 = .ok (.iload_n 3, 1) := by decide +kernel
theorem dX10_plan_207 : decode cX10_plan 207 = .ok (.invokevirtual 165, 3) := by decide +kernel
theorem dX10_plan_210 : decode cX10_plan 210 = .ok (.lreturn, 1) := by decide +kernel
theorem dX10_rung_0 : decode cX10_rung 0 = .ok (.aload_n 0, 1) := by decide +kernel
theorem dX10_rung_1 : decode cX10_rung 1 = .ok (.getfield 26, 3) := by decide +kernel
theorem dX10_rung_4 : decode cX10_rung 4 = .ok (.aload_n 0, 1) := by decide +kernel
theorem dX10_rung_5 : decode cX10_rung 5 = .ok (.getfield 26, 3) := by decide +kernel
theorem dX10_rung_8 : decode cX10_rung 8 = .ok (.getfield 146, 3) := by decide +kernel
theorem dX10_rung_11 : decode cX10_rung 11 = .ok (.iconst 1, 1) := by decide +kernel
theorem dX10_rung_12 : decode cX10_rung 12 = .ok (.iadd, 1) := by decide +kernel
theorem dX10_rung_13 : decode cX10_rung 13 = .ok (.bipush 12, 2) := by decide +kernel
theorem dX10_rung_15 : decode cX10_rung 15 = .ok (.invokestatic 254, 3) := by decide +kernel
theorem dX10_rung_18 : decode cX10_rung 18 = .ok (.putfield 146, 3) := by decide +kernel
theorem dX10_rung_21 : decode cX10_rung 21 = .ok (.aload_n 0, 1) := by decide +kernel
theorem dX10_rung_22 : decode cX10_rung 22 = .ok (.getfield 26, 3) := by decide +kernel
theorem dX10_rung_25 : decode cX10_rung 25 = .ok (.getfield 146, 3) := by decide +kernel
theorem dX10_rung_28 : decode cX10_rung 28 = .ok (.ireturn, 1) := by decide +kernel
theorem dX10_two_0 : decode cX10_two 0 = .ok (.iload_n 1, 1) := by decide +kernel
theorem dX10_two_1 : decode cX10_two 1 = .ok (.ifCond .lt 43, 3) := by decide +kernel
theorem dX10_two_4 : decode cX10_two 4 = .ok (.iload_n 1, 1) := by decide +kernel
theorem dX10_two_5 : decode cX10_two 5 = .ok (.bipush 100, 2) := by decide +kernel
theorem dX10_two_7 : decode cX10_two 7 = .ok (.idiv, 1) := by decide +kernel
theorem dX10_two_8 : decode cX10_two 8 = .ok (.bipush 12, 2) := by decide +kernel
theorem dX10_two_10 : decode cX10_two 10 = .ok (.invokestatic 90, 3) := by decide +kernel
theorem dX10_two_13 : decode cX10_two 13 = .ok (.ifCond .eq 31, 3) := by decide +kernel
theorem dX10_two_16 : decode cX10_two 16 = .ok (.iload_n 1, 1) := by decide +kernel
theorem dX10_two_17 : decode cX10_two 17 = .ok (.bipush 100, 2) := by decide +kernel
theorem dX10_two_19 : decode cX10_two 19 = .ok (.irem, 1) := by decide +kernel
theorem dX10_two_20 : decode cX10_two 20 = .ok (.bipush 12, 2) := by decide +kernel
theorem dX10_two_22 : decode cX10_two 22 = .ok (.invokestatic 90, 3) := by decide +kernel
theorem dX10_two_25 : decode cX10_two 25 = .ok (.ifCond .eq 19, 3) := by decide +kernel
theorem dX10_two_28 : decode cX10_two 28 = .ok (.iload_n 2, 1) := by decide +kernel
theorem dX10_two_29 : decode cX10_two 29 = .ok (.iconst 3, 1) := by decide +kernel
theorem dX10_two_30 : decode cX10_two 30 = .ok (.invokestatic 90, 3) := by decide +kernel
theorem dX10_two_33 : decode cX10_two 33 = .ok (.ifCond .eq 11, 3) := by decide +kernel
theorem dX10_two_36 : decode cX10_two 36 = .ok (.iload_n 3, 1) := by decide +kernel
theorem dX10_two_37 : decode cX10_two 37 = .ok (.iconst 1, 1) := by decide +kernel
theorem dX10_two_38 : decode cX10_two 38 = .ok (.invokestatic 90, 3) := by decide +kernel
theorem dX10_two_41 : decode cX10_two 41 = .ok (.ifCond .ne 7, 3) := by decide +kernel
theorem dX10_two_44 : decode cX10_two 44 = .ok (.ldc2_w 159, 3) := by decide +kernel
theorem dX10_two_47 : decode cX10_two 47 = .ok (.lreturn, 1) := by decide +kernel
theorem dX10_two_48 : decode cX10_two 48 = .ok (.iload_n 1, 1) := by decide +kernel
theorem dX10_two_49 : decode cX10_two 49 = .ok (.bipush 100, 2) := by decide +kernel
theorem dX10_two_51 : decode cX10_two 51 = .ok (.idiv, 1) := by decide +kernel
theorem dX10_two_52 : decode cX10_two 52 = .ok (.istore 4, 2) := by decide +kernel
theorem dX10_two_54 : decode cX10_two 54 = .ok (.iload_n 1, 1) := by decide +kernel
theorem dX10_two_55 : decode cX10_two 55 = .ok (.bipush 100, 2) := by decide +kernel
theorem dX10_two_57 : decode cX10_two 57 = .ok (.irem, 1) := by decide +kernel
theorem dX10_two_58 : decode cX10_two 58 = .ok (.istore 5, 2) := by decide +kernel
theorem dX10_two_60 : decode cX10_two 60 = .ok (.bipush 12, 2) := by decide +kernel
theorem dX10_two_62 : decode cX10_two 62 = .ok (.iload 4, 2) := by decide +kernel
theorem dX10_two_64 : decode cX10_two 64 = .ok (.isub, 1) := by decide +kernel
theorem dX10_two_65 : decode cX10_two 65 = .ok (.bipush 12, 2) := by decide +kernel
theorem dX10_two_67 : decode cX10_two 67 = .ok (.iload 5, 2) := by decide +kernel
theorem dX10_two_69 : decode cX10_two 69 = .ok (.isub, 1) := by decide +kernel
theorem dX10_two_70 : decode cX10_two 70 = .ok (.imul, 1) := by decide +kernel
theorem dX10_two_71 : decode cX10_two 71 = .ok (.istore 6, 2) := by decide +kernel
theorem dX10_two_73 : decode cX10_two 73 = .ok (.iload 4, 2) := by decide +kernel
theorem dX10_two_75 : decode cX10_two 75 = .ok (.iload 5, 2) := by decide +kernel
theorem dX10_two_77 : decode cX10_two 77 = .ok (.imul, 1) := by decide +kernel
theorem dX10_two_78 : decode cX10_two 78 = .ok (.istore 7, 2) := by decide +kernel
theorem dX10_two_80 : decode cX10_two 80 = .ok (.iload_n 2, 1) := by decide +kernel
theorem dX10_two_81 : decode cX10_two 81 = .ok (.tableswitch 85 0 2 #[27, 44, 68], 27) := by decide +kernel
theorem dX10_two_108 : decode cX10_two 108 = .ok (.aload_n 0, 1) := by decide +kernel
theorem dX10_two_109 : decode cX10_two 109 = .ok (.getfield 47, 3) := by decide +kernel
theorem dX10_two_112 : decode cX10_two 112 = .ok (.iload 6, 2) := by decide +kernel
theorem dX10_two_114 : decode cX10_two 114 = .ok (.i2l, 1) := by decide +kernel
theorem dX10_two_115 : decode cX10_two 115 = .ok (.ldc2_w 259, 3) := by decide +kernel
theorem dX10_two_118 : decode cX10_two 118 = .ok (.invokevirtual 191, 3) := by decide +kernel
theorem dX10_two_121 : decode cX10_two 121 = .ok (.pop, 1) := by decide +kernel
theorem dX10_two_122 : decode cX10_two 122 = .ok (.goto 61, 3) := by decide +kernel
theorem dX10_two_125 : decode cX10_two 125 = .ok (.aload_n 0, 1) := by decide +kernel
theorem dX10_two_126 : decode cX10_two 126 = .ok (.getfield 47, 3) := by decide +kernel
theorem dX10_two_129 : decode cX10_two 129 = .ok (.sipush 144, 3) := by decide +kernel
theorem dX10_two_132 : decode cX10_two 132 = .ok (.iload 6, 2) := by decide +kernel
theorem dX10_two_134 : decode cX10_two 134 = .ok (.isub, 1) := by decide +kernel
theorem dX10_two_135 : decode cX10_two 135 = .ok (.iload 7, 2) := by decide +kernel
theorem dX10_two_137 : decode cX10_two 137 = .ok (.isub, 1) := by decide +kernel
theorem dX10_two_138 : decode cX10_two 138 = .ok (.i2l, 1) := by decide +kernel
theorem dX10_two_139 : decode cX10_two 139 = .ok (.ldc2_w 259, 3) := by decide +kernel
theorem dX10_two_142 : decode cX10_two 142 = .ok (.invokevirtual 191, 3) := by decide +kernel
theorem dX10_two_145 : decode cX10_two 145 = .ok (.pop, 1) := by decide +kernel
theorem dX10_two_146 : decode cX10_two 146 = .ok (.goto 37, 3) := by decide +kernel
theorem dX10_two_149 : decode cX10_two 149 = .ok (.aload_n 0, 1) := by decide +kernel
theorem dX10_two_150 : decode cX10_two 150 = .ok (.getfield 47, 3) := by decide +kernel
theorem dX10_two_153 : decode cX10_two 153 = .ok (.iload 7, 2) := by decide +kernel
theorem dX10_two_155 : decode cX10_two 155 = .ok (.i2l, 1) := by decide +kernel
theorem dX10_two_156 : decode cX10_two 156 = .ok (.ldc2_w 259, 3) := by decide +kernel
theorem dX10_two_159 : decode cX10_two 159 = .ok (.invokevirtual 191, 3) := by decide +kernel
theorem dX10_two_162 : decode cX10_two 162 = .ok (.pop, 1) := by decide +kernel
theorem dX10_two_163 : decode cX10_two 163 = .ok (.goto 20, 3) := by decide +kernel
theorem dX10_two_166 : decode cX10_two 166 = .ok (.aload_n 0, 1) := by decide +kernel
theorem dX10_two_167 : decode cX10_two 167 = .ok (.getfield 47, 3) := by decide +kernel
theorem dX10_two_170 : decode cX10_two 170 = .ok (.iload 6, 2) := by decide +kernel
theorem dX10_two_172 : decode cX10_two 172 = .ok (.iload 7, 2) := by decide +kernel
theorem dX10_two_174 : decode cX10_two 174 = .ok (.iadd, 1) := by decide +kernel
theorem dX10_two_175 : decode cX10_two 175 = .ok (.i2l, 1) := by decide +kernel
theorem dX10_two_176 : decode cX10_two 176 = .ok (.ldc2_w 259, 3) := by decide +kernel
theorem dX10_two_179 : decode cX10_two 179 = .ok (.invokevirtual 191, 3) := by decide +kernel
theorem dX10_two_182 : decode cX10_two 182 = .ok (.pop, 1) := by decide +kernel
theorem dX10_two_183 : decode cX10_two 183 = .ok (.aload_n 0, 1) := by decide +kernel
theorem dX10_two_184 : decode cX10_two 184 = .ok (.getfield 47, 3) := by decide +kernel
theorem dX10_two_187 : decode cX10_two 187 = .ok (.iload_n 3, 1) := by decide +kernel
theorem dX10_two_188 : decode cX10_two 188 = .ok (.invokevirtual 165, 3) := by decide +kernel
theorem dX10_two_191 : decode cX10_two 191 = .ok (.lreturn, 1) := by decide +kernel
theorem dX10_shortest_0 : decode cX10_shortest 0 = .ok (.iload_n 1, 1) := by decide +kernel
theorem dX10_shortest_1 : decode cX10_shortest 1 = .ok (.ifCond .lt 25, 3) := by decide +kernel
theorem dX10_shortest_4 : decode cX10_shortest 4 = .ok (.iload_n 1, 1) := by decide +kernel
theorem dX10_shortest_5 : decode cX10_shortest 5 = .ok (.bipush 10, 2) := by decide +kernel
theorem dX10_shortest_7 : decode cX10_shortest 7 = .ok (.idiv, 1) := by decide +kernel
theorem dX10_shortest_8 : decode cX10_shortest 8 = .ok (.iconst 5, 1) := by decide +kernel
theorem dX10_shortest_9 : decode cX10_shortest 9 = .ok (.invokestatic 90, 3) := by decide +kernel
theorem dX10_shortest_12 : decode cX10_shortest 12 = .ok (.ifCond .eq 14, 3) := by decide +kernel
theorem dX10_shortest_15 : decode cX10_shortest 15 = .ok (.iload_n 1, 1) := by decide +kernel
theorem dX10_shortest_16 : decode cX10_shortest 16 = .ok (.bipush 10, 2) := by decide +kernel
theorem dX10_shortest_18 : decode cX10_shortest 18 = .ok (.irem, 1) := by decide +kernel
theorem dX10_shortest_19 : decode cX10_shortest 19 = .ok (.iconst 5, 1) := by decide +kernel
theorem dX10_shortest_20 : decode cX10_shortest 20 = .ok (.invokestatic 90, 3) := by decide +kernel
theorem dX10_shortest_23 : decode cX10_shortest 23 = .ok (.ifCond .ne 5, 3) := by decide +kernel
theorem dX10_shortest_26 : decode cX10_shortest 26 = .ok (.iconst (-1), 1) := by decide +kernel
theorem dX10_shortest_27 : decode cX10_shortest 27 = .ok (.ireturn, 1) := by decide +kernel
theorem dX10_shortest_28 : decode cX10_shortest 28 = .ok (.iload_n 2, 1) := by decide +kernel
theorem dX10_shortest_29 : decode cX10_shortest 29 = .ok (.bipush 63, 2) := by decide +kernel
theorem dX10_shortest_31 : decode cX10_shortest 31 = .ok (.invokestatic 90, 3) := by decide +kernel
theorem dX10_shortest_34 : decode cX10_shortest 34 = .ok (.ifCond .eq 8, 3) := by decide +kernel
theorem dX10_shortest_37 : decode cX10_shortest 37 = .ok (.iload_n 3, 1) := by decide +kernel
theorem dX10_shortest_38 : decode cX10_shortest 38 = .ok (.iconst (-1), 1) := by decide +kernel
theorem dX10_shortest_39 : decode cX10_shortest 39 = .ok (.if_icmp .ge 5, 3) := by decide +kernel
theorem dX10_shortest_42 : decode cX10_shortest 42 = .ok (.iconst (-1), 1) := by decide +kernel
theorem dX10_shortest_43 : decode cX10_shortest 43 = .ok (.ireturn, 1) := by decide +kernel
theorem dX10_shortest_44 : decode cX10_shortest 44 = .ok (.aload_n 0, 1) := by decide +kernel
theorem dX10_shortest_45 : decode cX10_shortest 45 = .ok (.getfield 61, 3) := by decide +kernel
theorem dX10_shortest_48 : decode cX10_shortest 48 = .ok (.aload_n 0, 1) := by decide +kernel
theorem dX10_shortest_49 : decode cX10_shortest 49 = .ok (.getfield 10, 3) := by decide +kernel
theorem dX10_shortest_52 : decode cX10_shortest 52 = .ok (.iload_n 1, 1) := by decide +kernel
theorem dX10_shortest_53 : decode cX10_shortest 53 = .ok (.bipush 10, 2) := by decide +kernel
theorem dX10_shortest_55 : decode cX10_shortest 55 = .ok (.idiv, 1) := by decide +kernel
theorem dX10_shortest_56 : decode cX10_shortest 56 = .ok (.iload_n 1, 1) := by decide +kernel
theorem dX10_shortest_57 : decode cX10_shortest 57 = .ok (.bipush 10, 2) := by decide +kernel
theorem dX10_shortest_59 : decode cX10_shortest 59 = .ok (.irem, 1) := by decide +kernel
theorem dX10_shortest_60 : decode cX10_shortest 60 = .ok (.iload_n 2, 1) := by decide +kernel
theorem dX10_shortest_61 : decode cX10_shortest 61 = .ok (.invokevirtual 261, 3) := by decide +kernel
theorem dX10_shortest_64 : decode cX10_shortest 64 = .ok (.iload_n 3, 1) := by decide +kernel
theorem dX10_shortest_65 : decode cX10_shortest 65 = .ok (.ifCond .ge 11, 3) := by decide +kernel
theorem dX10_shortest_68 : decode cX10_shortest 68 = .ok (.aload_n 0, 1) := by decide +kernel
theorem dX10_shortest_69 : decode cX10_shortest 69 = .ok (.getfield 61, 3) := by decide +kernel
theorem dX10_shortest_72 : decode cX10_shortest 72 = .ok (.getfield 265, 3) := by decide +kernel
theorem dX10_shortest_75 : decode cX10_shortest 75 = .ok (.ireturn, 1) := by decide +kernel
theorem dX10_shortest_76 : decode cX10_shortest 76 = .ok (.iload_n 3, 1) := by decide +kernel
theorem dX10_shortest_77 : decode cX10_shortest 77 = .ok (.aload_n 0, 1) := by decide +kernel
theorem dX10_shortest_78 : decode cX10_shortest 78 = .ok (.getfield 61, 3) := by decide +kernel
theorem dX10_shortest_81 : decode cX10_shortest 81 = .ok (.getfield 268, 3) := by decide +kernel
theorem dX10_shortest_84 : decode cX10_shortest 84 = .ok (.if_icmp .ge 15, 3) := by decide +kernel
theorem dX10_shortest_87 : decode cX10_shortest 87 = .ok (.aload_n 0, 1) := by decide +kernel
theorem dX10_shortest_88 : decode cX10_shortest 88 = .ok (.getfield 61, 3) := by decide +kernel
theorem dX10_shortest_91 : decode cX10_shortest 91 = .ok (.getfield 271, 3) := by decide +kernel
theorem dX10_shortest_94 : decode cX10_shortest 94 = .ok (.iload_n 3, 1) := by decide +kernel
theorem dX10_shortest_95 : decode cX10_shortest 95 = .ok (.iaload, 1) := by decide +kernel
theorem dX10_shortest_96 : decode cX10_shortest 96 = .ok (.goto 5, 3) := by decide +kernel
theorem dX10_shortest_99 : decode cX10_shortest 99 = .ok (.bipush (-2), 2) := by decide +kernel
theorem dX10_shortest_101 : decode cX10_shortest 101 = .ok (.ireturn, 1) := by decide +kernel
theorem dX10_length_0 : decode cX10_length 0 = .ok (.iload_n 1, 1) := by decide +kernel
theorem dX10_length_1 : decode cX10_length 1 = .ok (.invokestatic 102, 3) := by decide +kernel
theorem dX10_length_4 : decode cX10_length 4 = .ok (.ifCond .eq 11, 3) := by decide +kernel
theorem dX10_length_7 : decode cX10_length 7 = .ok (.iload_n 2, 1) := by decide +kernel
theorem dX10_length_8 : decode cX10_length 8 = .ok (.iconst 1, 1) := by decide +kernel
theorem dX10_length_9 : decode cX10_length 9 = .ok (.invokestatic 90, 3) := by decide +kernel
theorem dX10_length_12 : decode cX10_length 12 = .ok (.ifCond .ne 5, 3) := by decide +kernel
theorem dX10_length_15 : decode cX10_length 15 = .ok (.iconst (-1), 1) := by decide +kernel
theorem dX10_length_16 : decode cX10_length 16 = .ok (.ireturn, 1) := by decide +kernel
theorem dX10_length_17 : decode cX10_length 17 = .ok (.aload_n 0, 1) := by decide +kernel
theorem dX10_length_18 : decode cX10_length 18 = .ok (.getfield 81, 3) := by decide +kernel
theorem dX10_length_21 : decode cX10_length 21 = .ok (.iload_n 1, 1) := by decide +kernel
theorem dX10_length_22 : decode cX10_length 22 = .ok (.aaload, 1) := by decide +kernel
theorem dX10_length_23 : decode cX10_length 23 = .ok (.astore_n 3, 1) := by decide +kernel
theorem dX10_length_24 : decode cX10_length 24 = .ok (.aload_n 3, 1) := by decide +kernel
theorem dX10_length_25 : decode cX10_length 25 = .ok (.iconst 0, 1) := by decide +kernel
theorem dX10_length_26 : decode cX10_length 26 = .ok (.invokevirtual 274, 3) := by decide +kernel
theorem dX10_length_29 : decode cX10_length 29 = .ok (.istore 4, 2) := by decide +kernel
theorem dX10_length_31 : decode cX10_length 31 = .ok (.iload 4, 2) := by decide +kernel
theorem dX10_length_33 : decode cX10_length 33 = .ok (.ifCond .eq 6, 3) := by decide +kernel
theorem dX10_length_36 : decode cX10_length 36 = .ok (.iload 4, 2) := by decide +kernel
theorem dX10_length_38 : decode cX10_length 38 = .ok (.ireturn, 1) := by decide +kernel
theorem dX10_length_39 : decode cX10_length 39 = .ok (.aload_n 3, 1) := by decide +kernel
theorem dX10_length_40 : decode cX10_length 40 = .ok (.getfield 277, 3) := by decide +kernel
theorem dX10_length_43 : decode cX10_length 43 = .ok (.ifCond .eq 10, 3) := by decide +kernel
theorem dX10_length_46 : decode cX10_length 46 = .ok (.aload_n 3, 1) := by decide +kernel
theorem dX10_length_47 : decode cX10_length 47 = .ok (.invokestatic 278, 3) := by decide +kernel
theorem dX10_length_50 : decode cX10_length 50 = .ok (.ifCond .ne 6, 3) := by decide +kernel
theorem dX10_length_53 : decode cX10_length 53 = .ok (.bipush (-5), 2) := by decide +kernel
theorem dX10_length_55 : decode cX10_length 55 = .ok (.ireturn, 1) := by decide +kernel
theorem dX10_length_56 : decode cX10_length 56 = .ok (.aload_n 0, 1) := by decide +kernel
theorem dX10_length_57 : decode cX10_length 57 = .ok (.aload_n 3, 1) := by decide +kernel
theorem dX10_length_58 : decode cX10_length 58 = .ok (.invokevirtual 282, 3) := by decide +kernel
theorem dX10_length_61 : decode cX10_length 61 = .ok (.istore 5, 2) := by decide +kernel
theorem dX10_length_63 : decode cX10_length 63 = .ok (.iload_n 2, 1) := by decide +kernel
theorem dX10_length_64 : decode cX10_length 64 = .ok (.ifCond .ne 6, 3) := by decide +kernel
theorem dX10_length_67 : decode cX10_length 67 = .ok (.iload 5, 2) := by decide +kernel
theorem dX10_length_69 : decode cX10_length 69 = .ok (.ireturn, 1) := by decide +kernel
theorem dX10_length_70 : decode cX10_length 70 = .ok (.aload_n 0, 1) := by decide +kernel
theorem dX10_length_71 : decode cX10_length 71 = .ok (.getfield 61, 3) := by decide +kernel
theorem dX10_length_74 : decode cX10_length 74 = .ok (.aload_n 0, 1) := by decide +kernel
theorem dX10_length_75 : decode cX10_length 75 = .ok (.getfield 10, 3) := by decide +kernel
theorem dX10_length_78 : decode cX10_length 78 = .ok (.aload_n 3, 1) := by decide +kernel
theorem dX10_length_79 : decode cX10_length 79 = .ok (.iconst 0, 1) := by decide +kernel
theorem dX10_length_80 : decode cX10_length 80 = .ok (.invokevirtual 286, 3) := by decide +kernel
theorem dX10_length_83 : decode cX10_length 83 = .ok (.l2i, 1) := by decide +kernel
theorem dX10_length_84 : decode cX10_length 84 = .ok (.aload_n 3, 1) := by decide +kernel
theorem dX10_length_85 : decode cX10_length 85 = .ok (.aload_n 3, 1) := by decide +kernel
theorem dX10_length_86 : decode cX10_length 86 = .ok (.getfield 277, 3) := by decide +kernel
theorem dX10_length_89 : decode cX10_length 89 = .ok (.iconst 1, 1) := by decide +kernel
theorem dX10_length_90 : decode cX10_length 90 = .ok (.isub, 1) := by decide +kernel
theorem dX10_length_91 : decode cX10_length 91 = .ok (.invokevirtual 286, 3) := by decide +kernel
theorem dX10_length_94 : decode cX10_length 94 = .ok (.l2i, 1) := by decide +kernel
theorem dX10_length_95 : decode cX10_length 95 = .ok (.aload_n 3, 1) := by decide +kernel
theorem dX10_length_96 : decode cX10_length 96 = .ok (.invokestatic 288, 3) := by decide +kernel
theorem dX10_length_99 : decode cX10_length 99 = .ok (.invokevirtual 261, 3) := by decide +kernel
theorem dX10_length_102 : decode cX10_length 102 = .ok (.iload 5, 2) := by decide +kernel
theorem dX10_length_104 : decode cX10_length 104 = .ok (.aload_n 0, 1) := by decide +kernel
theorem dX10_length_105 : decode cX10_length 105 = .ok (.getfield 61, 3) := by decide +kernel
theorem dX10_length_108 : decode cX10_length 108 = .ok (.getfield 265, 3) := by decide +kernel
theorem dX10_length_111 : decode cX10_length 111 = .ok (.isub, 1) := by decide +kernel
theorem dX10_length_112 : decode cX10_length 112 = .ok (.ireturn, 1) := by decide +kernel
theorem dX10_list_0 : decode cX10_list 0 = .ok (.iload_n 1, 1) := by decide +kernel
theorem dX10_list_1 : decode cX10_list 1 = .ok (.ifCond .lt 34, 3) := by decide +kernel
theorem dX10_list_4 : decode cX10_list 4 = .ok (.aload_n 0, 1) := by decide +kernel
theorem dX10_list_5 : decode cX10_list 5 = .ok (.iload_n 1, 1) := by decide +kernel
theorem dX10_list_6 : decode cX10_list 6 = .ok (.bipush 100, 2) := by decide +kernel
theorem dX10_list_8 : decode cX10_list 8 = .ok (.idiv, 1) := by decide +kernel
theorem dX10_list_9 : decode cX10_list 9 = .ok (.invokevirtual 137, 3) := by decide +kernel
theorem dX10_list_12 : decode cX10_list 12 = .ok (.ifCond .eq 23, 3) := by decide +kernel
theorem dX10_list_15 : decode cX10_list 15 = .ok (.iload_n 1, 1) := by decide +kernel
theorem dX10_list_16 : decode cX10_list 16 = .ok (.bipush 100, 2) := by decide +kernel
theorem dX10_list_18 : decode cX10_list 18 = .ok (.irem, 1) := by decide +kernel
theorem dX10_list_19 : decode cX10_list 19 = .ok (.bipush 12, 2) := by decide +kernel
theorem dX10_list_21 : decode cX10_list 21 = .ok (.invokestatic 90, 3) := by decide +kernel
theorem dX10_list_24 : decode cX10_list 24 = .ok (.ifCond .eq 11, 3) := by decide +kernel
theorem dX10_list_27 : decode cX10_list 27 = .ok (.iload_n 2, 1) := by decide +kernel
theorem dX10_list_28 : decode cX10_list 28 = .ok (.iconst 1, 1) := by decide +kernel
theorem dX10_list_29 : decode cX10_list 29 = .ok (.invokestatic 90, 3) := by decide +kernel
theorem dX10_list_32 : decode cX10_list 32 = .ok (.ifCond .ne 7, 3) := by decide +kernel
theorem dX10_list_35 : decode cX10_list 35 = .ok (.ldc2_w 159, 3) := by decide +kernel
theorem dX10_list_38 : decode cX10_list 38 = .ok (.lreturn, 1) := by decide +kernel
theorem dX10_list_39 : decode cX10_list 39 = .ok (.aload_n 0, 1) := by decide +kernel
theorem dX10_list_40 : decode cX10_list 40 = .ok (.getfield 10, 3) := by decide +kernel
theorem dX10_list_43 : decode cX10_list 43 = .ok (.iconst 0, 1) := by decide +kernel
theorem dX10_list_44 : decode cX10_list 44 = .ok (.iload_n 1, 1) := by decide +kernel
theorem dX10_list_45 : decode cX10_list 45 = .ok (.bipush 100, 2) := by decide +kernel
theorem dX10_list_47 : decode cX10_list 47 = .ok (.idiv, 1) := by decide +kernel
theorem dX10_list_48 : decode cX10_list 48 = .ok (.invokevirtual 178, 3) := by decide +kernel
theorem dX10_list_51 : decode cX10_list 51 = .ok (.i2l, 1) := by decide +kernel
theorem dX10_list_52 : decode cX10_list 52 = .ok (.lstore_n 3, 1) := by decide +kernel
theorem dX10_list_53 : decode cX10_list 53 = .ok (.lload_n 3, 1) := by decide +kernel
theorem dX10_list_54 : decode cX10_list 54 = .ok (.iload_n 1, 1) := by decide +kernel
theorem dX10_list_55 : decode cX10_list 55 = .ok (.bipush 100, 2) := by decide +kernel
theorem dX10_list_57 : decode cX10_list 57 = .ok (.irem, 1) := by decide +kernel
theorem dX10_list_58 : decode cX10_list 58 = .ok (.i2l, 1) := by decide +kernel
theorem dX10_list_59 : decode cX10_list 59 = .ok (.lmul, 1) := by decide +kernel
theorem dX10_list_60 : decode cX10_list 60 = .ok (.lstore 5, 2) := by decide +kernel
theorem dX10_list_62 : decode cX10_list 62 = .ok (.aload_n 0, 1) := by decide +kernel
theorem dX10_list_63 : decode cX10_list 63 = .ok (.getfield 47, 3) := by decide +kernel
theorem dX10_list_66 : decode cX10_list 66 = .ok (.lload 5, 2) := by decide +kernel
theorem dX10_list_68 : decode cX10_list 68 = .ok (.lload 5, 2) := by decide +kernel
theorem dX10_list_70 : decode cX10_list 70 = .ok (.ldc2_w 259, 3) := by decide +kernel
theorem dX10_list_73 : decode cX10_list 73 = .ok (.lload_n 3, 1) := by decide +kernel
theorem dX10_list_74 : decode cX10_list 74 = .ok (.lsub, 1) := by decide +kernel
theorem dX10_list_75 : decode cX10_list 75 = .ok (.ldc2_w 242, 3) := by decide +kernel
theorem dX10_list_78 : decode cX10_list 78 = .ok (.lmul, 1) := by decide +kernel
theorem dX10_list_79 : decode cX10_list 79 = .ok (.ladd, 1) := by decide +kernel
theorem dX10_list_80 : decode cX10_list 80 = .ok (.invokevirtual 191, 3) := by decide +kernel
theorem dX10_list_83 : decode cX10_list 83 = .ok (.ifCond .eq 14, 3) := by decide +kernel
theorem dX10_list_86 : decode cX10_list 86 = .ok (.aload_n 0, 1) := by decide +kernel
theorem dX10_list_87 : decode cX10_list 87 = .ok (.getfield 47, 3) := by decide +kernel
theorem dX10_list_90 : decode cX10_list 90 = .ok (.iload_n 2, 1) := by decide +kernel
theorem dX10_list_91 : decode cX10_list 91 = .ok (.invokevirtual 165, 3) := by decide +kernel
theorem dX10_list_94 : decode cX10_list 94 = .ok (.goto 6, 3) := by decide +kernel
theorem dX10_list_97 : decode cX10_list 97 = .ok (.ldc2_w 169, 3) := by decide +kernel
theorem dX10_list_100 : decode cX10_list 100 = .ok (.lreturn, 1) := by decide +kernel
theorem dX10_ever_0 : decode cX10_ever 0 = .ok (.aload_n 0, 1) := by decide +kernel
theorem dX10_ever_1 : decode cX10_ever 1 = .ok (.iload_n 1, 1) := by decide +kernel
theorem dX10_ever_2 : decode cX10_ever 2 = .ok (.invokevirtual 137, 3) := by decide +kernel
theorem dX10_ever_5 : decode cX10_ever 5 = .ok (.ifCond .eq 20, 3) := by decide +kernel
theorem dX10_ever_8 : decode cX10_ever 8 = .ok (.iload_n 2, 1) := by decide +kernel
theorem dX10_ever_9 : decode cX10_ever 9 = .ok (.bipush 7, 2) := by decide +kernel
theorem dX10_ever_11 : decode cX10_ever 11 = .ok (.invokestatic 90, 3) := by decide +kernel
theorem dX10_ever_14 : decode cX10_ever 14 = .ok (.ifCond .eq 11, 3) := by decide +kernel
theorem dX10_ever_17 : decode cX10_ever 17 = .ok (.iload_n 3, 1) := by decide +kernel
theorem dX10_ever_18 : decode cX10_ever 18 = .ok (.iconst 1, 1) := by decide +kernel
theorem dX10_ever_19 : decode cX10_ever 19 = .ok (.invokestatic 90, 3) := by decide +kernel
theorem dX10_ever_22 : decode cX10_ever 22 = .ok (.ifCond .ne 7, 3) := by decide +kernel
theorem dX10_ever_25 : decode cX10_ever 25 = .ok (.ldc2_w 159, 3) := by decide +kernel
theorem dX10_ever_28 : decode cX10_ever 28 = .ok (.lreturn, 1) := by decide +kernel
theorem dX10_ever_29 : decode cX10_ever 29 = .ok (.sipush 144, 3) := by decide +kernel
theorem dX10_ever_32 : decode cX10_ever 32 = .ok (.aload_n 0, 1) := by decide +kernel
theorem dX10_ever_33 : decode cX10_ever 33 = .ok (.getfield 10, 3) := by decide +kernel
theorem dX10_ever_36 : decode cX10_ever 36 = .ok (.iconst 0, 1) := by decide +kernel
theorem dX10_ever_37 : decode cX10_ever 37 = .ok (.iload_n 1, 1) := by decide +kernel
theorem dX10_ever_38 : decode cX10_ever 38 = .ok (.invokevirtual 178, 3) := by decide +kernel
theorem dX10_ever_41 : decode cX10_ever 41 = .ok (.isub, 1) := by decide +kernel
theorem dX10_ever_42 : decode cX10_ever 42 = .ok (.i2l, 1) := by decide +kernel
theorem dX10_ever_43 : decode cX10_ever 43 = .ok (.lstore 4, 2) := by decide +kernel
theorem dX10_ever_45 : decode cX10_ever 45 = .ok (.lconst 1, 1) := by decide +kernel
theorem dX10_ever_46 : decode cX10_ever 46 = .ok (.lstore 6, 2) := by decide +kernel
theorem dX10_ever_48 : decode cX10_ever 48 = .ok (.lconst 1, 1) := by decide +kernel
theorem dX10_ever_49 : decode cX10_ever 49 = .ok (.lstore 8, 2) := by decide +kernel
theorem dX10_ever_51 : decode cX10_ever 51 = .ok (.iconst 0, 1) := by decide +kernel
theorem dX10_ever_52 : decode cX10_ever 52 = .ok (.istore 10, 2) := by decide +kernel
theorem dX10_ever_54 : decode cX10_ever 54 = .ok (.iload 10, 2) := by decide +kernel
theorem dX10_ever_56 : decode cX10_ever 56 = .ok (.iload_n 2, 1) := by decide +kernel
theorem dX10_ever_57 : decode cX10_ever 57 = .ok (.if_icmp .ge 24, 3) := by decide +kernel
theorem dX10_ever_60 : decode cX10_ever 60 = .ok (.lload 6, 2) := by decide +kernel
theorem dX10_ever_62 : decode cX10_ever 62 = .ok (.ldc2_w 259, 3) := by decide +kernel
theorem dX10_ever_65 : decode cX10_ever 65 = .ok (.lmul, 1) := by decide +kernel
theorem dX10_ever_66 : decode cX10_ever 66 = .ok (.lstore 6, 2) := by decide +kernel
theorem dX10_ever_68 : decode cX10_ever 68 = .ok (.lload 8, 2) := by decide +kernel
theorem dX10_ever_70 : decode cX10_ever 70 = .ok (.lload 4, 2) := by decide +kernel
theorem dX10_ever_72 : decode cX10_ever 72 = .ok (.lmul, 1) := by decide +kernel
theorem dX10_ever_73 : decode cX10_ever 73 = .ok (.lstore 8, 2) := by decide +kernel
theorem dX10_ever_75 : decode cX10_ever 75 = .ok (.iinc 10 1, 3) := by decide +kernel
theorem dX10_ever_78 : decode cX10_ever 78 = .ok (.goto (-24), 3) := by decide +kernel
theorem dX10_ever_81 : decode cX10_ever 81 = .ok (.aload_n 0, 1) := by decide +kernel
theorem dX10_ever_82 : decode cX10_ever 82 = .ok (.getfield 47, 3) := by decide +kernel
theorem dX10_ever_85 : decode cX10_ever 85 = .ok (.lload 6, 2) := by decide +kernel
theorem dX10_ever_87 : decode cX10_ever 87 = .ok (.lload 8, 2) := by decide +kernel
theorem dX10_ever_89 : decode cX10_ever 89 = .ok (.lsub, 1) := by decide +kernel
theorem dX10_ever_90 : decode cX10_ever 90 = .ok (.lload 6, 2) := by decide +kernel
theorem dX10_ever_92 : decode cX10_ever 92 = .ok (.invokevirtual 191, 3) := by decide +kernel
theorem dX10_ever_95 : decode cX10_ever 95 = .ok (.pop, 1) := by decide +kernel
theorem dX10_ever_96 : decode cX10_ever 96 = .ok (.aload_n 0, 1) := by decide +kernel
theorem dX10_ever_97 : decode cX10_ever 97 = .ok (.getfield 47, 3) := by decide +kernel
theorem dX10_ever_100 : decode cX10_ever 100 = .ok (.iload_n 3, 1) := by decide +kernel
theorem dX10_ever_101 : decode cX10_ever 101 = .ok (.invokevirtual 165, 3) := by decide +kernel
theorem dX10_ever_104 : decode cX10_ever 104 = .ok (.lreturn, 1) := by decide +kernel
theorem dX10_camera_0 : decode cX10_camera 0 = .ok (.aload_n 0, 1) := by decide +kernel
theorem dX10_camera_1 : decode cX10_camera 1 = .ok (.iload_n 1, 1) := by decide +kernel
theorem dX10_camera_2 : decode cX10_camera 2 = .ok (.invokevirtual 194, 3) := by decide +kernel
theorem dX10_camera_5 : decode cX10_camera 5 = .ok (.ifCond .eq 20, 3) := by decide +kernel
theorem dX10_camera_8 : decode cX10_camera 8 = .ok (.iload_n 2, 1) := by decide +kernel
theorem dX10_camera_9 : decode cX10_camera 9 = .ok (.bipush 99, 2) := by decide +kernel
theorem dX10_camera_11 : decode cX10_camera 11 = .ok (.invokestatic 90, 3) := by decide +kernel
theorem dX10_camera_14 : decode cX10_camera 14 = .ok (.ifCond .eq 11, 3) := by decide +kernel
theorem dX10_camera_17 : decode cX10_camera 17 = .ok (.iload_n 3, 1) := by decide +kernel
theorem dX10_camera_18 : decode cX10_camera 18 = .ok (.iconst 2, 1) := by decide +kernel
theorem dX10_camera_19 : decode cX10_camera 19 = .ok (.invokestatic 90, 3) := by decide +kernel
theorem dX10_camera_22 : decode cX10_camera 22 = .ok (.ifCond .ne 7, 3) := by decide +kernel
theorem dX10_camera_25 : decode cX10_camera 25 = .ok (.ldc2_w 159, 3) := by decide +kernel
theorem dX10_camera_28 : decode cX10_camera 28 = .ok (.lreturn, 1) := by decide +kernel
theorem dX10_camera_29 : decode cX10_camera 29 = .ok (.aload_n 0, 1) := by decide +kernel
theorem dX10_camera_30 : decode cX10_camera 30 = .ok (.iload_n 1, 1) := by decide +kernel
theorem dX10_camera_31 : decode cX10_camera 31 = .ok (.invokevirtual 197, 3) := by decide +kernel
theorem dX10_camera_34 : decode cX10_camera 34 = .ok (.ifCond .ne 7, 3) := by decide +kernel
theorem dX10_camera_37 : decode cX10_camera 37 = .ok (.ldc2_w 169, 3) := by decide +kernel
theorem dX10_camera_40 : decode cX10_camera 40 = .ok (.lreturn, 1) := by decide +kernel
theorem dX10_camera_41 : decode cX10_camera 41 = .ok (.aload_n 0, 1) := by decide +kernel
theorem dX10_camera_42 : decode cX10_camera 42 = .ok (.getfield 54, 3) := by decide +kernel
theorem dX10_camera_45 : decode cX10_camera 45 = .ok (.aload_n 0, 1) := by decide +kernel
theorem dX10_camera_46 : decode cX10_camera 46 = .ok (.iload_n 2, 1) := by decide +kernel
theorem dX10_camera_47 : decode cX10_camera 47 = .ok (.invokevirtual 185, 3) := by decide +kernel
theorem dX10_camera_50 : decode cX10_camera 50 = .ok (.i2l, 1) := by decide +kernel
theorem dX10_camera_51 : decode cX10_camera 51 = .ok (.invokevirtual 291, 3) := by decide +kernel
theorem dX10_camera_54 : decode cX10_camera 54 = .ok (.istore 4, 2) := by decide +kernel
theorem dX10_camera_56 : decode cX10_camera 56 = .ok (.iload 4, 2) := by decide +kernel
theorem dX10_camera_58 : decode cX10_camera 58 = .ok (.ifCond .ge 7, 3) := by decide +kernel
theorem dX10_camera_61 : decode cX10_camera 61 = .ok (.ldc2_w 169, 3) := by decide +kernel
theorem dX10_camera_64 : decode cX10_camera 64 = .ok (.lreturn, 1) := by decide +kernel
theorem dX10_camera_65 : decode cX10_camera 65 = .ok (.iload_n 3, 1) := by decide +kernel
theorem dX10_camera_66 : decode cX10_camera 66 = .ok (.iconst 2, 1) := by decide +kernel
theorem dX10_camera_67 : decode cX10_camera 67 = .ok (.if_icmp .ne 7, 3) := by decide +kernel
theorem dX10_camera_70 : decode cX10_camera 70 = .ok (.iload 4, 2) := by decide +kernel
theorem dX10_camera_72 : decode cX10_camera 72 = .ok (.i2l, 1) := by decide +kernel
theorem dX10_camera_73 : decode cX10_camera 73 = .ok (.lreturn, 1) := by decide +kernel
theorem dX10_camera_74 : decode cX10_camera 74 = .ok (.aload_n 0, 1) := by decide +kernel
theorem dX10_camera_75 : decode cX10_camera 75 = .ok (.getfield 47, 3) := by decide +kernel
theorem dX10_camera_78 : decode cX10_camera 78 = .ok (.aload_n 0, 1) := by decide +kernel
theorem dX10_camera_79 : decode cX10_camera 79 = .ok (.getfield 54, 3) := by decide +kernel
theorem dX10_camera_82 : decode cX10_camera 82 = .ok (.iload 4, 2) := by decide +kernel
theorem dX10_camera_84 : decode cX10_camera 84 = .ok (.aload_n 0, 1) := by decide +kernel
theorem dX10_camera_85 : decode cX10_camera 85 = .ok (.iload_n 2, 1) := by decide +kernel
theorem dX10_camera_86 : decode cX10_camera 86 = .ok (.invokevirtual 185, 3) := by decide +kernel
theorem dX10_camera_89 : decode cX10_camera 89 = .ok (.i2l, 1) := by decide +kernel
theorem dX10_camera_90 : decode cX10_camera 90 = .ok (.invokevirtual 295, 3) := by decide +kernel
theorem dX10_camera_93 : decode cX10_camera 93 = .ok (.aload_n 0, 1) := by decide +kernel
theorem dX10_camera_94 : decode cX10_camera 94 = .ok (.getfield 54, 3) := by decide +kernel
theorem dX10_camera_97 : decode cX10_camera 97 = .ok (.getfield 211, 3) := by decide +kernel
theorem dX10_camera_100 : decode cX10_camera 100 = .ok (.invokevirtual 191, 3) := by decide +kernel
theorem dX10_camera_103 : decode cX10_camera 103 = .ok (.pop, 1) := by decide +kernel
theorem dX10_camera_104 : decode cX10_camera 104 = .ok (.aload_n 0, 1) := by decide +kernel
theorem dX10_camera_105 : decode cX10_camera 105 = .ok (.getfield 47, 3) := by decide +kernel
theorem dX10_camera_108 : decode cX10_camera 108 = .ok (.iload_n 3, 1) := by decide +kernel
theorem dX10_camera_109 : decode cX10_camera 109 = .ok (.invokevirtual 165, 3) := by decide +kernel
theorem dX10_camera_112 : decode cX10_camera 112 = .ok (.lreturn, 1) := by decide +kernel
theorem dX10_drawn_0 : decode cX10_drawn 0 = .ok (.iload_n 2, 1) := by decide +kernel
theorem dX10_drawn_1 : decode cX10_drawn 1 = .ok (.iconst 1, 1) := by decide +kernel
theorem dX10_drawn_2 : decode cX10_drawn 2 = .ok (.if_icmp .lt 44, 3) := by decide +kernel
theorem dX10_drawn_5 : decode cX10_drawn 5 = .ok (.iload_n 2, 1) := by decide +kernel
theorem dX10_drawn_6 : decode cX10_drawn 6 = .ok (.bipush 60, 2) := by decide +kernel
theorem dX10_drawn_8 : decode cX10_drawn 8 = .ok (.if_icmp .gt 38, 3) := by decide +kernel
theorem dX10_drawn_11 : decode cX10_drawn 11 = .ok (.iload_n 3, 1) := by decide +kernel
theorem dX10_drawn_12 : decode cX10_drawn 12 = .ok (.ifCond .lt 34, 3) := by decide +kernel
theorem dX10_drawn_15 : decode cX10_drawn 15 = .ok (.aload_n 0, 1) := by decide +kernel
theorem dX10_drawn_16 : decode cX10_drawn 16 = .ok (.iload_n 3, 1) := by decide +kernel
theorem dX10_drawn_17 : decode cX10_drawn 17 = .ok (.sipush 1000, 3) := by decide +kernel
theorem dX10_drawn_20 : decode cX10_drawn 20 = .ok (.idiv, 1) := by decide +kernel
theorem dX10_drawn_21 : decode cX10_drawn 21 = .ok (.invokevirtual 137, 3) := by decide +kernel
theorem dX10_drawn_24 : decode cX10_drawn 24 = .ok (.ifCond .eq 22, 3) := by decide +kernel
theorem dX10_drawn_27 : decode cX10_drawn 27 = .ok (.iload_n 3, 1) := by decide +kernel
theorem dX10_drawn_28 : decode cX10_drawn 28 = .ok (.bipush 10, 2) := by decide +kernel
theorem dX10_drawn_30 : decode cX10_drawn 30 = .ok (.irem, 1) := by decide +kernel
theorem dX10_drawn_31 : decode cX10_drawn 31 = .ok (.invokestatic 299, 3) := by decide +kernel
theorem dX10_drawn_34 : decode cX10_drawn 34 = .ok (.ifCond .eq 12, 3) := by decide +kernel
theorem dX10_drawn_37 : decode cX10_drawn 37 = .ok (.iload 4, 2) := by decide +kernel
theorem dX10_drawn_39 : decode cX10_drawn 39 = .ok (.iconst 1, 1) := by decide +kernel
theorem dX10_drawn_40 : decode cX10_drawn 40 = .ok (.invokestatic 90, 3) := by decide +kernel
theorem dX10_drawn_43 : decode cX10_drawn 43 = .ok (.ifCond .ne 5, 3) := by decide +kernel
theorem dX10_drawn_46 : decode cX10_drawn 46 = .ok (.iconst (-1), 1) := by decide +kernel
theorem dX10_drawn_47 : decode cX10_drawn 47 = .ok (.ireturn, 1) := by decide +kernel
theorem dX10_drawn_48 : decode cX10_drawn 48 = .ok (.iload_n 3, 1) := by decide +kernel
theorem dX10_drawn_49 : decode cX10_drawn 49 = .ok (.sipush 1000, 3) := by decide +kernel
theorem dX10_drawn_52 : decode cX10_drawn 52 = .ok (.idiv, 1) := by decide +kernel
theorem dX10_drawn_53 : decode cX10_drawn 53 = .ok (.istore 5, 2) := by decide +kernel
theorem dX10_drawn_55 : decode cX10_drawn 55 = .ok (.iload_n 3, 1) := by decide +kernel
theorem dX10_drawn_56 : decode cX10_drawn 56 = .ok (.bipush 10, 2) := by decide +kernel
theorem dX10_drawn_58 : decode cX10_drawn 58 = .ok (.idiv, 1) := by decide +kernel
theorem dX10_drawn_59 : decode cX10_drawn 59 = .ok (.bipush 100, 2) := by decide +kernel
theorem dX10_drawn_61 : decode cX10_drawn 61 = .ok (.irem, 1) := by decide +kernel
theorem dX10_drawn_62 : decode cX10_drawn 62 = .ok (.istore 6, 2) := by decide +kernel
theorem dX10_drawn_64 : decode cX10_drawn 64 = .ok (.aload_n 0, 1) := by decide +kernel
theorem dX10_drawn_65 : decode cX10_drawn 65 = .ok (.getfield 10, 3) := by decide +kernel
theorem dX10_drawn_68 : decode cX10_drawn 68 = .ok (.iconst 0, 1) := by decide +kernel
theorem dX10_drawn_69 : decode cX10_drawn 69 = .ok (.iload 5, 2) := by decide +kernel
theorem dX10_drawn_71 : decode cX10_drawn 71 = .ok (.invokevirtual 178, 3) := by decide +kernel
theorem dX10_drawn_74 : decode cX10_drawn 74 = .ok (.istore 7, 2) := by decide +kernel
theorem dX10_drawn_76 : decode cX10_drawn 76 = .ok (.aload_n 0, 1) := by decide +kernel
theorem dX10_drawn_77 : decode cX10_drawn 77 = .ok (.iload_n 3, 1) := by decide +kernel
theorem dX10_drawn_78 : decode cX10_drawn 78 = .ok (.bipush 10, 2) := by decide +kernel
theorem dX10_drawn_80 : decode cX10_drawn 80 = .ok (.irem, 1) := by decide +kernel
theorem dX10_drawn_81 : decode cX10_drawn 81 = .ok (.iload 5, 2) := by decide +kernel
theorem dX10_drawn_83 : decode cX10_drawn 83 = .ok (.iconst 1, 1) := by decide +kernel
theorem dX10_drawn_84 : decode cX10_drawn 84 = .ok (.iload 6, 2) := by decide +kernel
theorem dX10_drawn_86 : decode cX10_drawn 86 = .ok (.invokevirtual 302, 3) := by decide +kernel
theorem dX10_drawn_89 : decode cX10_drawn 89 = .ok (.istore 8, 2) := by decide +kernel
theorem dX10_drawn_91 : decode cX10_drawn 91 = .ok (.aload_n 0, 1) := by decide +kernel
theorem dX10_drawn_92 : decode cX10_drawn 92 = .ok (.iload_n 3, 1) := by decide +kernel
theorem dX10_drawn_93 : decode cX10_drawn 93 = .ok (.bipush 10, 2) := by decide +kernel
theorem dX10_drawn_95 : decode cX10_drawn 95 = .ok (.irem, 1) := by decide +kernel
theorem dX10_drawn_96 : decode cX10_drawn 96 = .ok (.iload 5, 2) := by decide +kernel
theorem dX10_drawn_98 : decode cX10_drawn 98 = .ok (.iconst 0, 1) := by decide +kernel
theorem dX10_drawn_99 : decode cX10_drawn 99 = .ok (.iload 6, 2) := by decide +kernel
theorem dX10_drawn_101 : decode cX10_drawn 101 = .ok (.invokevirtual 302, 3) := by decide +kernel
theorem dX10_drawn_104 : decode cX10_drawn 104 = .ok (.istore 9, 2) := by decide +kernel
theorem dX10_drawn_106 : decode cX10_drawn 106 = .ok (.iconst 0, 1) := by decide +kernel
theorem dX10_drawn_107 : decode cX10_drawn 107 = .ok (.istore 10, 2) := by decide +kernel
theorem dX10_drawn_109 : decode cX10_drawn 109 = .ok (.iconst 0, 1) := by decide +kernel
theorem dX10_drawn_110 : decode cX10_drawn 110 = .ok (.istore 11, 2) := by decide +kernel
theorem dX10_drawn_112 : decode cX10_drawn 112 = .ok (.aload_n 0, 1) := by decide +kernel
theorem dX10_drawn_113 : decode cX10_drawn 113 = .ok (.getfield 68, 3) := by decide +kernel
theorem dX10_drawn_116 : decode cX10_drawn 116 = .ok (.iload_n 1, 1) := by decide +kernel
theorem dX10_drawn_117 : decode cX10_drawn 117 = .ok (.putfield 306, 3) := by decide +kernel
theorem dX10_drawn_120 : decode cX10_drawn 120 = .ok (.iconst 0, 1) := by decide +kernel
theorem dX10_drawn_121 : decode cX10_drawn 121 = .ok (.istore 12, 2) := by decide +kernel
theorem dX10_drawn_123 : decode cX10_drawn 123 = .ok (.iload 12, 2) := by decide +kernel
theorem dX10_drawn_125 : decode cX10_drawn 125 = .ok (.iload_n 2, 1) := by decide +kernel
theorem dX10_drawn_126 : decode cX10_drawn 126 = .ok (.if_icmp .ge 96, 3) := by decide +kernel
theorem dX10_drawn_129 : decode cX10_drawn 129 = .ok (.aload_n 0, 1) := by decide +kernel
theorem dX10_drawn_130 : decode cX10_drawn 130 = .ok (.getfield 68, 3) := by decide +kernel
theorem dX10_drawn_133 : decode cX10_drawn 133 = .ok (.iload 7, 2) := by decide +kernel
theorem dX10_drawn_135 : decode cX10_drawn 135 = .ok (.aload_n 0, 1) := by decide +kernel
theorem dX10_drawn_136 : decode cX10_drawn 136 = .ok (.iload 5, 2) := by decide +kernel
theorem dX10_drawn_138 : decode cX10_drawn 138 = .ok (.invokevirtual 309, 3) := by decide +kernel
theorem dX10_drawn_141 : decode cX10_drawn 141 = .ok (.aload_n 0, 1) := by decide +kernel
theorem dX10_drawn_142 : decode cX10_drawn 142 = .ok (.iload 5, 2) := by decide +kernel
theorem dX10_drawn_144 : decode cX10_drawn 144 = .ok (.invokevirtual 312, 3) := by decide +kernel
theorem dX10_drawn_147 : decode cX10_drawn 147 = .ok (.invokevirtual 315, 3) := by decide +kernel
theorem dX10_drawn_150 : decode cX10_drawn 150 = .ok (.aload_n 0, 1) := by decide +kernel
theorem dX10_drawn_151 : decode cX10_drawn 151 = .ok (.getfield 68, 3) := by decide +kernel
theorem dX10_drawn_154 : decode cX10_drawn 154 = .ok (.getfield 318, 3) := by decide +kernel
theorem dX10_drawn_157 : decode cX10_drawn 157 = .ok (.ifCond .eq 8, 3) := by decide +kernel
theorem dX10_drawn_160 : decode cX10_drawn 160 = .ok (.iload 8, 2) := by decide +kernel
theorem dX10_drawn_162 : decode cX10_drawn 162 = .ok (.goto 5, 3) := by decide +kernel
theorem dX10_drawn_165 : decode cX10_drawn 165 = .ok (.iload 9, 2) := by decide +kernel
theorem dX10_drawn_167 : decode cX10_drawn 167 = .ok (.istore 13, 2) := by decide +kernel
theorem dX10_drawn_169 : decode cX10_drawn 169 = .ok (.iload 10, 2) := by decide +kernel
theorem dX10_drawn_171 : decode cX10_drawn 171 = .ok (.aload_n 0, 1) := by decide +kernel
theorem dX10_drawn_172 : decode cX10_drawn 172 = .ok (.iload 5, 2) := by decide +kernel
theorem dX10_drawn_174 : decode cX10_drawn 174 = .ok (.iload 6, 2) := by decide +kernel
theorem dX10_drawn_176 : decode cX10_drawn 176 = .ok (.iload 13, 2) := by decide +kernel
theorem dX10_drawn_178 : decode cX10_drawn 178 = .ok (.aload_n 0, 1) := by decide +kernel
theorem dX10_drawn_179 : decode cX10_drawn 179 = .ok (.getfield 68, 3) := by decide +kernel
theorem dX10_drawn_182 : decode cX10_drawn 182 = .ok (.getfield 321, 3) := by decide +kernel
theorem dX10_drawn_185 : decode cX10_drawn 185 = .ok (.invokevirtual 323, 3) := by decide +kernel
theorem dX10_drawn_188 : decode cX10_drawn 188 = .ok (.iadd, 1) := by decide +kernel
theorem dX10_drawn_189 : decode cX10_drawn 189 = .ok (.istore 10, 2) := by decide +kernel
theorem dX10_drawn_191 : decode cX10_drawn 191 = .ok (.iload 11, 2) := by decide +kernel
theorem dX10_drawn_193 : decode cX10_drawn 193 = .ok (.iload 13, 2) := by decide +kernel
theorem dX10_drawn_195 : decode cX10_drawn 195 = .ok (.ifCond .eq 17, 3) := by decide +kernel
theorem dX10_drawn_198 : decode cX10_drawn 198 = .ok (.aload_n 0, 1) := by decide +kernel
theorem dX10_drawn_199 : decode cX10_drawn 199 = .ok (.getfield 68, 3) := by decide +kernel
theorem dX10_drawn_202 : decode cX10_drawn 202 = .ok (.getfield 321, 3) := by decide +kernel
theorem dX10_drawn_205 : decode cX10_drawn 205 = .ok (.ifCond .ne 7, 3) := by decide +kernel
theorem dX10_drawn_208 : decode cX10_drawn 208 = .ok (.iconst 1, 1) := by decide +kernel
theorem dX10_drawn_209 : decode cX10_drawn 209 = .ok (.goto 4, 3) := by decide +kernel
theorem dX10_drawn_212 : decode cX10_drawn 212 = .ok (.iconst 0, 1) := by decide +kernel
theorem dX10_drawn_213 : decode cX10_drawn 213 = .ok (.iadd, 1) := by decide +kernel
theorem dX10_drawn_214 : decode cX10_drawn 214 = .ok (.istore 11, 2) := by decide +kernel
theorem dX10_drawn_216 : decode cX10_drawn 216 = .ok (.iinc 12 1, 3) := by decide +kernel
theorem dX10_drawn_219 : decode cX10_drawn 219 = .ok (.goto (-96), 3) := by decide +kernel
theorem dX10_drawn_222 : decode cX10_drawn 222 = .ok (.iload 4, 2) := by decide +kernel
theorem dX10_drawn_224 : decode cX10_drawn 224 = .ok (.ifCond .ne 8, 3) := by decide +kernel
theorem dX10_drawn_227 : decode cX10_drawn 227 = .ok (.iload 10, 2) := by decide +kernel
theorem dX10_drawn_229 : decode cX10_drawn 229 = .ok (.goto 5, 3) := by decide +kernel
theorem dX10_drawn_232 : decode cX10_drawn 232 = .ok (.iload 11, 2) := by decide +kernel
theorem dX10_drawn_234 : decode cX10_drawn 234 = .ok (.ireturn, 1) := by decide +kernel
theorem dX10_fits_0 : decode cX10_fits 0 = .ok (.iload_n 1, 1) := by decide +kernel
theorem dX10_fits_1 : decode cX10_fits 1 = .ok (.invokestatic 102, 3) := by decide +kernel
theorem dX10_fits_4 : decode cX10_fits 4 = .ok (.ifCond .eq 12, 3) := by decide +kernel
theorem dX10_fits_7 : decode cX10_fits 7 = .ok (.aload_n 0, 1) := by decide +kernel
theorem dX10_fits_8 : decode cX10_fits 8 = .ok (.iload_n 2, 1) := by decide +kernel
theorem dX10_fits_9 : decode cX10_fits 9 = .ok (.iconst 1, 1) := by decide +kernel
theorem dX10_fits_10 : decode cX10_fits 10 = .ok (.invokevirtual 171, 3) := by decide +kernel
theorem dX10_fits_13 : decode cX10_fits 13 = .ok (.ifCond .ne 5, 3) := by decide +kernel
theorem dX10_fits_16 : decode cX10_fits 16 = .ok (.iconst (-1), 1) := by decide +kernel
theorem dX10_fits_17 : decode cX10_fits 17 = .ok (.ireturn, 1) := by decide +kernel
theorem dX10_fits_18 : decode cX10_fits 18 = .ok (.aload_n 0, 1) := by decide +kernel
theorem dX10_fits_19 : decode cX10_fits 19 = .ok (.getfield 81, 3) := by decide +kernel
theorem dX10_fits_22 : decode cX10_fits 22 = .ok (.iload_n 1, 1) := by decide +kernel
theorem dX10_fits_23 : decode cX10_fits 23 = .ok (.aaload, 1) := by decide +kernel
theorem dX10_fits_24 : decode cX10_fits 24 = .ok (.invokestatic 326, 3) := by decide +kernel
theorem dX10_fits_27 : decode cX10_fits 27 = .ok (.istore_n 3, 1) := by decide +kernel
theorem dX10_fits_28 : decode cX10_fits 28 = .ok (.iload_n 3, 1) := by decide +kernel
theorem dX10_fits_29 : decode cX10_fits 29 = .ok (.ifCond .eq 5, 3) := by decide +kernel
theorem dX10_fits_32 : decode cX10_fits 32 = .ok (.iload_n 3, 1) := by decide +kernel
theorem dX10_fits_33 : decode cX10_fits 33 = .ok (.ireturn, 1) := by decide +kernel
theorem dX10_fits_34 : decode cX10_fits 34 = .ok (.iconst 0, 1) := by decide +kernel
theorem dX10_fits_35 : decode cX10_fits 35 = .ok (.istore 4, 2) := by decide +kernel
theorem dX10_fits_37 : decode cX10_fits 37 = .ok (.iconst 0, 1) := by decide +kernel
theorem dX10_fits_38 : decode cX10_fits 38 = .ok (.istore 5, 2) := by decide +kernel
theorem dX10_fits_40 : decode cX10_fits 40 = .ok (.iload 5, 2) := by decide +kernel
theorem dX10_fits_42 : decode cX10_fits 42 = .ok (.iconst 4, 1) := by decide +kernel
theorem dX10_fits_43 : decode cX10_fits 43 = .ok (.if_icmp .gt 34, 3) := by decide +kernel
theorem dX10_fits_46 : decode cX10_fits 46 = .ok (.aload_n 0, 1) := by decide +kernel
theorem dX10_fits_47 : decode cX10_fits 47 = .ok (.aload_n 0, 1) := by decide +kernel
theorem dX10_fits_48 : decode cX10_fits 48 = .ok (.getfield 81, 3) := by decide +kernel
theorem dX10_fits_51 : decode cX10_fits 51 = .ok (.iload_n 1, 1) := by decide +kernel
theorem dX10_fits_52 : decode cX10_fits 52 = .ok (.aaload, 1) := by decide +kernel
theorem dX10_fits_53 : decode cX10_fits 53 = .ok (.iload_n 2, 1) := by decide +kernel
theorem dX10_fits_54 : decode cX10_fits 54 = .ok (.iload 5, 2) := by decide +kernel
theorem dX10_fits_56 : decode cX10_fits 56 = .ok (.invokevirtual 329, 3) := by decide +kernel
theorem dX10_fits_59 : decode cX10_fits 59 = .ok (.ifCond .ge 12, 3) := by decide +kernel
theorem dX10_fits_62 : decode cX10_fits 62 = .ok (.iload 4, 2) := by decide +kernel
theorem dX10_fits_64 : decode cX10_fits 64 = .ok (.iconst 1, 1) := by decide +kernel
theorem dX10_fits_65 : decode cX10_fits 65 = .ok (.iload 5, 2) := by decide +kernel
theorem dX10_fits_67 : decode cX10_fits 67 = .ok (.ishl, 1) := by decide +kernel
theorem dX10_fits_68 : decode cX10_fits 68 = .ok (.ior, 1) := by decide +kernel
theorem dX10_fits_69 : decode cX10_fits 69 = .ok (.istore 4, 2) := by decide +kernel
theorem dX10_fits_71 : decode cX10_fits 71 = .ok (.iinc 5 1, 3) := by decide +kernel
theorem dX10_fits_74 : decode cX10_fits 74 = .ok (.goto (-34), 3) := by decide +kernel
theorem dX10_fits_77 : decode cX10_fits 77 = .ok (.iload 4, 2) := by decide +kernel
theorem dX10_fits_79 : decode cX10_fits 79 = .ok (.ireturn, 1) := by decide +kernel
theorem dX10_when_0 : decode cX10_when 0 = .ok (.iload_n 1, 1) := by decide +kernel
theorem dX10_when_1 : decode cX10_when 1 = .ok (.invokestatic 102, 3) := by decide +kernel
theorem dX10_when_4 : decode cX10_when 4 = .ok (.ifCond .eq 19, 3) := by decide +kernel
theorem dX10_when_7 : decode cX10_when 7 = .ok (.aload_n 0, 1) := by decide +kernel
theorem dX10_when_8 : decode cX10_when 8 = .ok (.iload_n 2, 1) := by decide +kernel
theorem dX10_when_9 : decode cX10_when 9 = .ok (.iconst 1, 1) := by decide +kernel
theorem dX10_when_10 : decode cX10_when 10 = .ok (.invokevirtual 171, 3) := by decide +kernel
theorem dX10_when_13 : decode cX10_when 13 = .ok (.ifCond .eq 10, 3) := by decide +kernel
theorem dX10_when_16 : decode cX10_when 16 = .ok (.iload_n 3, 1) := by decide +kernel
theorem dX10_when_17 : decode cX10_when 17 = .ok (.invokestatic 299, 3) := by decide +kernel
theorem dX10_when_20 : decode cX10_when 20 = .ok (.ifCond .ne 5, 3) := by decide +kernel
theorem dX10_when_23 : decode cX10_when 23 = .ok (.iconst (-1), 1) := by decide +kernel
theorem dX10_when_24 : decode cX10_when 24 = .ok (.ireturn, 1) := by decide +kernel
theorem dX10_when_25 : decode cX10_when 25 = .ok (.aload_n 0, 1) := by decide +kernel
theorem dX10_when_26 : decode cX10_when 26 = .ok (.getfield 81, 3) := by decide +kernel
theorem dX10_when_29 : decode cX10_when 29 = .ok (.iload_n 1, 1) := by decide +kernel
theorem dX10_when_30 : decode cX10_when 30 = .ok (.aaload, 1) := by decide +kernel
theorem dX10_when_31 : decode cX10_when 31 = .ok (.invokestatic 326, 3) := by decide +kernel
theorem dX10_when_34 : decode cX10_when 34 = .ok (.istore 4, 2) := by decide +kernel
theorem dX10_when_36 : decode cX10_when 36 = .ok (.iload 4, 2) := by decide +kernel
theorem dX10_when_38 : decode cX10_when 38 = .ok (.ifCond .eq 6, 3) := by decide +kernel
theorem dX10_when_41 : decode cX10_when 41 = .ok (.iload 4, 2) := by decide +kernel
theorem dX10_when_43 : decode cX10_when 43 = .ok (.ireturn, 1) := by decide +kernel
theorem dX10_when_44 : decode cX10_when 44 = .ok (.aload_n 0, 1) := by decide +kernel
theorem dX10_when_45 : decode cX10_when 45 = .ok (.aload_n 0, 1) := by decide +kernel
theorem dX10_when_46 : decode cX10_when 46 = .ok (.getfield 81, 3) := by decide +kernel
theorem dX10_when_49 : decode cX10_when 49 = .ok (.iload_n 1, 1) := by decide +kernel
theorem dX10_when_50 : decode cX10_when 50 = .ok (.aaload, 1) := by decide +kernel
theorem dX10_when_51 : decode cX10_when 51 = .ok (.iload_n 2, 1) := by decide +kernel
theorem dX10_when_52 : decode cX10_when 52 = .ok (.iload_n 3, 1) := by decide +kernel
theorem dX10_when_53 : decode cX10_when 53 = .ok (.invokevirtual 329, 3) := by decide +kernel
theorem dX10_when_56 : decode cX10_when 56 = .ok (.istore 5, 2) := by decide +kernel
theorem dX10_when_58 : decode cX10_when 58 = .ok (.iload 5, 2) := by decide +kernel
theorem dX10_when_60 : decode cX10_when 60 = .ok (.ifCond .ge 8, 3) := by decide +kernel
theorem dX10_when_63 : decode cX10_when 63 = .ok (.bipush (-2), 2) := by decide +kernel
theorem dX10_when_65 : decode cX10_when 65 = .ok (.goto 5, 3) := by decide +kernel
theorem dX10_when_68 : decode cX10_when 68 = .ok (.iload 5, 2) := by decide +kernel
theorem dX10_when_70 : decode cX10_when 70 = .ok (.ireturn, 1) := by decide +kernel
theorem dX10_judge_0 : decode cX10_judge 0 = .ok (.iload_n 1, 1) := by decide +kernel
theorem dX10_judge_1 : decode cX10_judge 1 = .ok (.invokestatic 102, 3) := by decide +kernel
theorem dX10_judge_4 : decode cX10_judge 4 = .ok (.ifCond .ne 5, 3) := by decide +kernel
theorem dX10_judge_7 : decode cX10_judge 7 = .ok (.iconst (-1), 1) := by decide +kernel
theorem dX10_judge_8 : decode cX10_judge 8 = .ok (.ireturn, 1) := by decide +kernel
theorem dX10_judge_9 : decode cX10_judge 9 = .ok (.aload_n 0, 1) := by decide +kernel
theorem dX10_judge_10 : decode cX10_judge 10 = .ok (.getfield 81, 3) := by decide +kernel
theorem dX10_judge_13 : decode cX10_judge 13 = .ok (.iload_n 1, 1) := by decide +kernel
theorem dX10_judge_14 : decode cX10_judge 14 = .ok (.aaload, 1) := by decide +kernel
theorem dX10_judge_15 : decode cX10_judge 15 = .ok (.astore_n 2, 1) := by decide +kernel
theorem dX10_judge_16 : decode cX10_judge 16 = .ok (.aload_n 2, 1) := by decide +kernel
theorem dX10_judge_17 : decode cX10_judge 17 = .ok (.iconst 1, 1) := by decide +kernel
theorem dX10_judge_18 : decode cX10_judge 18 = .ok (.invokevirtual 274, 3) := by decide +kernel
theorem dX10_judge_21 : decode cX10_judge 21 = .ok (.istore_n 3, 1) := by decide +kernel
theorem dX10_judge_22 : decode cX10_judge 22 = .ok (.iload_n 3, 1) := by decide +kernel
theorem dX10_judge_23 : decode cX10_judge 23 = .ok (.ifCond .eq 5, 3) := by decide +kernel
theorem dX10_judge_26 : decode cX10_judge 26 = .ok (.iload_n 3, 1) := by decide +kernel
theorem dX10_judge_27 : decode cX10_judge 27 = .ok (.ireturn, 1) := by decide +kernel
theorem dX10_judge_28 : decode cX10_judge 28 = .ok (.iconst 0, 1) := by decide +kernel
theorem dX10_judge_29 : decode cX10_judge 29 = .ok (.istore 4, 2) := by decide +kernel
theorem dX10_judge_31 : decode cX10_judge 31 = .ok (.iload 4, 2) := by decide +kernel
theorem dX10_judge_33 : decode cX10_judge 33 = .ok (.aload_n 2, 1) := by decide +kernel
theorem dX10_judge_34 : decode cX10_judge 34 = .ok (.getfield 277, 3) := by decide +kernel
theorem dX10_judge_37 : decode cX10_judge 37 = .ok (.if_icmp .ge 54, 3) := by decide +kernel
theorem dX10_judge_40 : decode cX10_judge 40 = .ok (.iload 4, 2) := by decide +kernel
theorem dX10_judge_42 : decode cX10_judge 42 = .ok (.iconst 2, 1) := by decide +kernel
theorem dX10_judge_43 : decode cX10_judge 43 = .ok (.iadd, 1) := by decide +kernel
theorem dX10_judge_44 : decode cX10_judge 44 = .ok (.aload_n 2, 1) := by decide +kernel
theorem dX10_judge_45 : decode cX10_judge 45 = .ok (.getfield 277, 3) := by decide +kernel
theorem dX10_judge_48 : decode cX10_judge 48 = .ok (.if_icmp .ge 32, 3) := by decide +kernel
theorem dX10_judge_51 : decode cX10_judge 51 = .ok (.aload_n 0, 1) := by decide +kernel
theorem dX10_judge_52 : decode cX10_judge 52 = .ok (.aload_n 2, 1) := by decide +kernel
theorem dX10_judge_53 : decode cX10_judge 53 = .ok (.iload 4, 2) := by decide +kernel
theorem dX10_judge_55 : decode cX10_judge 55 = .ok (.invokevirtual 286, 3) := by decide +kernel
theorem dX10_judge_58 : decode cX10_judge 58 = .ok (.aload_n 2, 1) := by decide +kernel
theorem dX10_judge_59 : decode cX10_judge 59 = .ok (.iload 4, 2) := by decide +kernel
theorem dX10_judge_61 : decode cX10_judge 61 = .ok (.iconst 1, 1) := by decide +kernel
theorem dX10_judge_62 : decode cX10_judge 62 = .ok (.iadd, 1) := by decide +kernel
theorem dX10_judge_63 : decode cX10_judge 63 = .ok (.invokevirtual 286, 3) := by decide +kernel
theorem dX10_judge_66 : decode cX10_judge 66 = .ok (.aload_n 2, 1) := by decide +kernel
theorem dX10_judge_67 : decode cX10_judge 67 = .ok (.iload 4, 2) := by decide +kernel
theorem dX10_judge_69 : decode cX10_judge 69 = .ok (.iconst 2, 1) := by decide +kernel
theorem dX10_judge_70 : decode cX10_judge 70 = .ok (.iadd, 1) := by decide +kernel
theorem dX10_judge_71 : decode cX10_judge 71 = .ok (.invokevirtual 286, 3) := by decide +kernel
theorem dX10_judge_74 : decode cX10_judge 74 = .ok (.invokevirtual 333, 3) := by decide +kernel
theorem dX10_judge_77 : decode cX10_judge 77 = .ok (.ifCond .ne 8, 3) := by decide +kernel
theorem dX10_judge_80 : decode cX10_judge 80 = .ok (.iload 4, 2) := by decide +kernel
theorem dX10_judge_82 : decode cX10_judge 82 = .ok (.iconst 3, 1) := by decide +kernel
theorem dX10_judge_83 : decode cX10_judge 83 = .ok (.idiv, 1) := by decide +kernel
theorem dX10_judge_84 : decode cX10_judge 84 = .ok (.ireturn, 1) := by decide +kernel
theorem dX10_judge_85 : decode cX10_judge 85 = .ok (.iinc 4 3, 3) := by decide +kernel
theorem dX10_judge_88 : decode cX10_judge 88 = .ok (.goto (-57), 3) := by decide +kernel
theorem dX10_judge_91 : decode cX10_judge 91 = .ok (.bipush (-2), 2) := by decide +kernel
theorem dX10_judge_93 : decode cX10_judge 93 = .ok (.ireturn, 1) := by decide +kernel
theorem dX10_morning_0 : decode cX10_morning 0 = .ok (.aload_n 0, 1) := by decide +kernel
theorem dX10_morning_1 : decode cX10_morning 1 = .ok (.iload_n 1, 1) := by decide +kernel
theorem dX10_morning_2 : decode cX10_morning 2 = .ok (.invokevirtual 137, 3) := by decide +kernel
theorem dX10_morning_5 : decode cX10_morning 5 = .ok (.ifCond .ne 5, 3) := by decide +kernel
theorem dX10_morning_8 : decode cX10_morning 8 = .ok (.iconst (-1), 1) := by decide +kernel
theorem dX10_morning_9 : decode cX10_morning 9 = .ok (.ireturn, 1) := by decide +kernel
theorem dX10_morning_10 : decode cX10_morning 10 = .ok (.aload_n 0, 1) := by decide +kernel
theorem dX10_morning_11 : decode cX10_morning 11 = .ok (.getfield 26, 3) := by decide +kernel
theorem dX10_morning_14 : decode cX10_morning 14 = .ok (.getfield 337, 3) := by decide +kernel
theorem dX10_morning_17 : decode cX10_morning 17 = .ok (.ifCond .lt 6, 3) := by decide +kernel
theorem dX10_morning_20 : decode cX10_morning 20 = .ok (.bipush (-5), 2) := by decide +kernel
theorem dX10_morning_22 : decode cX10_morning 22 = .ok (.ireturn, 1) := by decide +kernel
theorem dX10_morning_23 : decode cX10_morning 23 = .ok (.aload_n 0, 1) := by decide +kernel
theorem dX10_morning_24 : decode cX10_morning 24 = .ok (.getfield 68, 3) := by decide +kernel
theorem dX10_morning_27 : decode cX10_morning 27 = .ok (.iload_n 2, 1) := by decide +kernel
theorem dX10_morning_28 : decode cX10_morning 28 = .ok (.putfield 306, 3) := by decide +kernel
theorem dX10_morning_31 : decode cX10_morning 31 = .ok (.aload_n 0, 1) := by decide +kernel
theorem dX10_morning_32 : decode cX10_morning 32 = .ok (.getfield 68, 3) := by decide +kernel
theorem dX10_morning_35 : decode cX10_morning 35 = .ok (.aload_n 0, 1) := by decide +kernel
theorem dX10_morning_36 : decode cX10_morning 36 = .ok (.getfield 10, 3) := by decide +kernel
theorem dX10_morning_39 : decode cX10_morning 39 = .ok (.iconst 0, 1) := by decide +kernel
theorem dX10_morning_40 : decode cX10_morning 40 = .ok (.iload_n 1, 1) := by decide +kernel
theorem dX10_morning_41 : decode cX10_morning 41 = .ok (.invokevirtual 178, 3) := by decide +kernel
theorem dX10_morning_44 : decode cX10_morning 44 = .ok (.aload_n 0, 1) := by decide +kernel
theorem dX10_morning_45 : decode cX10_morning 45 = .ok (.iload_n 1, 1) := by decide +kernel
theorem dX10_morning_46 : decode cX10_morning 46 = .ok (.invokevirtual 309, 3) := by decide +kernel
theorem dX10_morning_49 : decode cX10_morning 49 = .ok (.aload_n 0, 1) := by decide +kernel
theorem dX10_morning_50 : decode cX10_morning 50 = .ok (.iload_n 1, 1) := by decide +kernel
theorem dX10_morning_51 : decode cX10_morning 51 = .ok (.invokevirtual 312, 3) := by decide +kernel
theorem dX10_morning_54 : decode cX10_morning 54 = .ok (.invokevirtual 315, 3) := by decide +kernel
theorem dX10_morning_57 : decode cX10_morning 57 = .ok (.aload_n 0, 1) := by decide +kernel
theorem dX10_morning_58 : decode cX10_morning 58 = .ok (.getfield 26, 3) := by decide +kernel
theorem dX10_morning_61 : decode cX10_morning 61 = .ok (.iload_n 1, 1) := by decide +kernel
theorem dX10_morning_62 : decode cX10_morning 62 = .ok (.putfield 337, 3) := by decide +kernel
theorem dX10_morning_65 : decode cX10_morning 65 = .ok (.aload_n 0, 1) := by decide +kernel
theorem dX10_morning_66 : decode cX10_morning 66 = .ok (.getfield 26, 3) := by decide +kernel
theorem dX10_morning_69 : decode cX10_morning 69 = .ok (.aload_n 0, 1) := by decide +kernel
theorem dX10_morning_70 : decode cX10_morning 70 = .ok (.getfield 68, 3) := by decide +kernel
theorem dX10_morning_73 : decode cX10_morning 73 = .ok (.getfield 321, 3) := by decide +kernel
theorem dX10_morning_76 : decode cX10_morning 76 = .ok (.putfield 340, 3) := by decide +kernel
theorem dX10_morning_79 : decode cX10_morning 79 = .ok (.aload_n 0, 1) := by decide +kernel
theorem dX10_morning_80 : decode cX10_morning 80 = .ok (.iload_n 1, 1) := by decide +kernel
theorem dX10_morning_81 : decode cX10_morning 81 = .ok (.invokevirtual 341, 3) := by decide +kernel
theorem dX10_morning_84 : decode cX10_morning 84 = .ok (.ifCond .eq 11, 3) := by decide +kernel
theorem dX10_morning_87 : decode cX10_morning 87 = .ok (.aload_n 0, 1) := by decide +kernel
theorem dX10_morning_88 : decode cX10_morning 88 = .ok (.getfield 26, 3) := by decide +kernel
theorem dX10_morning_91 : decode cX10_morning 91 = .ok (.iload_n 1, 1) := by decide +kernel
theorem dX10_morning_92 : decode cX10_morning 92 = .ok (.invokevirtual 344, 3) := by decide +kernel
theorem dX10_morning_95 : decode cX10_morning 95 = .ok (.aload_n 0, 1) := by decide +kernel
theorem dX10_morning_96 : decode cX10_morning 96 = .ok (.getfield 68, 3) := by decide +kernel
theorem dX10_morning_99 : decode cX10_morning 99 = .ok (.getfield 318, 3) := by decide +kernel
theorem dX10_morning_102 : decode cX10_morning 102 = .ok (.ifCond .eq 7, 3) := by decide +kernel
theorem dX10_morning_105 : decode cX10_morning 105 = .ok (.iconst 1, 1) := by decide +kernel
theorem dX10_morning_106 : decode cX10_morning 106 = .ok (.goto 4, 3) := by decide +kernel
theorem dX10_morning_109 : decode cX10_morning 109 = .ok (.iconst 0, 1) := by decide +kernel
theorem dX10_morning_110 : decode cX10_morning 110 = .ok (.ireturn, 1) := by decide +kernel
theorem dX10_goBack_0 : decode cX10_goBack 0 = .ok (.iload_n 1, 1) := by decide +kernel
theorem dX10_goBack_1 : decode cX10_goBack 1 = .ok (.bipush 99, 2) := by decide +kernel
theorem dX10_goBack_3 : decode cX10_goBack 3 = .ok (.invokestatic 90, 3) := by decide +kernel
theorem dX10_goBack_6 : decode cX10_goBack 6 = .ok (.ifCond .ne 5, 3) := by decide +kernel
theorem dX10_goBack_9 : decode cX10_goBack 9 = .ok (.iconst (-1), 1) := by decide +kernel
theorem dX10_goBack_10 : decode cX10_goBack 10 = .ok (.ireturn, 1) := by decide +kernel
theorem dX10_goBack_11 : decode cX10_goBack 11 = .ok (.aload_n 0, 1) := by decide +kernel
theorem dX10_goBack_12 : decode cX10_goBack 12 = .ok (.getfield 26, 3) := by decide +kernel
theorem dX10_goBack_15 : decode cX10_goBack 15 = .ok (.getfield 337, 3) := by decide +kernel
theorem dX10_goBack_18 : decode cX10_goBack 18 = .ok (.ifCond .ge 6, 3) := by decide +kernel
theorem dX10_goBack_21 : decode cX10_goBack 21 = .ok (.bipush (-5), 2) := by decide +kernel
theorem dX10_goBack_23 : decode cX10_goBack 23 = .ok (.ireturn, 1) := by decide +kernel
theorem dX10_goBack_24 : decode cX10_goBack 24 = .ok (.aload_n 0, 1) := by decide +kernel
theorem dX10_goBack_25 : decode cX10_goBack 25 = .ok (.aload_n 0, 1) := by decide +kernel
theorem dX10_goBack_26 : decode cX10_goBack 26 = .ok (.getfield 26, 3) := by decide +kernel
theorem dX10_goBack_29 : decode cX10_goBack 29 = .ok (.getfield 337, 3) := by decide +kernel
theorem dX10_goBack_32 : decode cX10_goBack 32 = .ok (.iload_n 1, 1) := by decide +kernel
theorem dX10_goBack_33 : decode cX10_goBack 33 = .ok (.iconst 1, 1) := by decide +kernel
theorem dX10_goBack_34 : decode cX10_goBack 34 = .ok (.aload_n 0, 1) := by decide +kernel
theorem dX10_goBack_35 : decode cX10_goBack 35 = .ok (.getfield 26, 3) := by decide +kernel
theorem dX10_goBack_38 : decode cX10_goBack 38 = .ok (.getfield 340, 3) := by decide +kernel
theorem dX10_goBack_41 : decode cX10_goBack 41 = .ok (.invokevirtual 323, 3) := by decide +kernel
theorem dX10_goBack_44 : decode cX10_goBack 44 = .ok (.istore_n 2, 1) := by decide +kernel
theorem dX10_goBack_45 : decode cX10_goBack 45 = .ok (.aload_n 0, 1) := by decide +kernel
theorem dX10_goBack_46 : decode cX10_goBack 46 = .ok (.getfield 26, 3) := by decide +kernel
theorem dX10_goBack_49 : decode cX10_goBack 49 = .ok (.iload_n 2, 1) := by decide +kernel
theorem dX10_goBack_50 : decode cX10_goBack 50 = .ok (.iconst 1, 1) := by decide +kernel
theorem dX10_goBack_51 : decode cX10_goBack 51 = .ok (.invokevirtual 348, 3) := by decide +kernel
theorem dX10_goBack_54 : decode cX10_goBack 54 = .ok (.iload_n 2, 1) := by decide +kernel
theorem dX10_goBack_55 : decode cX10_goBack 55 = .ok (.ireturn, 1) := by decide +kernel
theorem dX10_goOn_0 : decode cX10_goOn 0 = .ok (.aload_n 0, 1) := by decide +kernel
theorem dX10_goOn_1 : decode cX10_goOn 1 = .ok (.getfield 26, 3) := by decide +kernel
theorem dX10_goOn_4 : decode cX10_goOn 4 = .ok (.getfield 337, 3) := by decide +kernel
theorem dX10_goOn_7 : decode cX10_goOn 7 = .ok (.ifCond .ge 6, 3) := by decide +kernel
theorem dX10_goOn_10 : decode cX10_goOn 10 = .ok (.bipush (-5), 2) := by decide +kernel
theorem dX10_goOn_12 : decode cX10_goOn 12 = .ok (.ireturn, 1) := by decide +kernel
theorem dX10_goOn_13 : decode cX10_goOn 13 = .ok (.aload_n 0, 1) := by decide +kernel
theorem dX10_goOn_14 : decode cX10_goOn 14 = .ok (.aload_n 0, 1) := by decide +kernel
theorem dX10_goOn_15 : decode cX10_goOn 15 = .ok (.getfield 26, 3) := by decide +kernel
theorem dX10_goOn_18 : decode cX10_goOn 18 = .ok (.getfield 337, 3) := by decide +kernel
theorem dX10_goOn_21 : decode cX10_goOn 21 = .ok (.iconst 0, 1) := by decide +kernel
theorem dX10_goOn_22 : decode cX10_goOn 22 = .ok (.iconst 0, 1) := by decide +kernel
theorem dX10_goOn_23 : decode cX10_goOn 23 = .ok (.aload_n 0, 1) := by decide +kernel
theorem dX10_goOn_24 : decode cX10_goOn 24 = .ok (.getfield 26, 3) := by decide +kernel
theorem dX10_goOn_27 : decode cX10_goOn 27 = .ok (.getfield 340, 3) := by decide +kernel
theorem dX10_goOn_30 : decode cX10_goOn 30 = .ok (.invokevirtual 323, 3) := by decide +kernel
theorem dX10_goOn_33 : decode cX10_goOn 33 = .ok (.istore_n 1, 1) := by decide +kernel
theorem dX10_goOn_34 : decode cX10_goOn 34 = .ok (.aload_n 0, 1) := by decide +kernel
theorem dX10_goOn_35 : decode cX10_goOn 35 = .ok (.getfield 26, 3) := by decide +kernel
theorem dX10_goOn_38 : decode cX10_goOn 38 = .ok (.iload_n 1, 1) := by decide +kernel
theorem dX10_goOn_39 : decode cX10_goOn 39 = .ok (.iconst 0, 1) := by decide +kernel
theorem dX10_goOn_40 : decode cX10_goOn 40 = .ok (.invokevirtual 348, 3) := by decide +kernel
theorem dX10_goOn_43 : decode cX10_goOn 43 = .ok (.iload_n 1, 1) := by decide +kernel
theorem dX10_goOn_44 : decode cX10_goOn 44 = .ok (.ireturn, 1) := by decide +kernel
theorem dX10_dayOff_0 : decode cX10_dayOff 0 = .ok (.aload_n 0, 1) := by decide +kernel
theorem dX10_dayOff_1 : decode cX10_dayOff 1 = .ok (.getfield 26, 3) := by decide +kernel
theorem dX10_dayOff_4 : decode cX10_dayOff 4 = .ok (.invokevirtual 352, 3) := by decide +kernel
theorem dX10_dayOff_7 : decode cX10_dayOff 7 = .ok (.ireturn, 1) := by decide +kernel
theorem dX10_led_0 : decode cX10_led 0 = .ok (.iload_n 1, 1) := by decide +kernel
theorem dX10_led_1 : decode cX10_led 1 = .ok (.iconst 4, 1) := by decide +kernel
theorem dX10_led_2 : decode cX10_led 2 = .ok (.invokestatic 90, 3) := by decide +kernel
theorem dX10_led_5 : decode cX10_led 5 = .ok (.ifCond .eq 15, 3) := by decide +kernel
theorem dX10_led_8 : decode cX10_led 8 = .ok (.aload_n 0, 1) := by decide +kernel
theorem dX10_led_9 : decode cX10_led 9 = .ok (.getfield 26, 3) := by decide +kernel
theorem dX10_led_12 : decode cX10_led 12 = .ok (.getfield 355, 3) := by decide +kernel
theorem dX10_led_15 : decode cX10_led 15 = .ok (.iload_n 1, 1) := by decide +kernel
theorem dX10_led_16 : decode cX10_led 16 = .ok (.iaload, 1) := by decide +kernel
theorem dX10_led_17 : decode cX10_led 17 = .ok (.goto 4, 3) := by decide +kernel
theorem dX10_led_20 : decode cX10_led 20 = .ok (.iconst (-1), 1) := by decide +kernel
theorem dX10_led_21 : decode cX10_led 21 = .ok (.ireturn, 1) := by decide +kernel
theorem dX10_image_0 : decode cX10_image 0 = .ok (.aload_n 0, 1) := by decide +kernel
theorem dX10_image_1 : decode cX10_image 1 = .ok (.getfield 30, 3) := by decide +kernel
theorem dX10_image_4 : decode cX10_image 4 = .ok (.aload_n 0, 1) := by decide +kernel
theorem dX10_image_5 : decode cX10_image 5 = .ok (.getfield 26, 3) := by decide +kernel
theorem dX10_image_8 : decode cX10_image 8 = .ok (.invokevirtual 358, 3) := by decide +kernel
theorem dX10_image_11 : decode cX10_image 11 = .ok (.aload_n 0, 1) := by decide +kernel
theorem dX10_image_12 : decode cX10_image 12 = .ok (.iconst 1, 1) := by decide +kernel
theorem dX10_image_13 : decode cX10_image 13 = .ok (.putfield 33, 3) := by decide +kernel
theorem dX10_image_16 : decode cX10_image 16 = .ok (.aload_n 0, 1) := by decide +kernel
theorem dX10_image_17 : decode cX10_image 17 = .ok (.getfield 26, 3) := by decide +kernel
theorem dX10_image_20 : decode cX10_image 20 = .ok (.getfield 355, 3) := by decide +kernel
theorem dX10_image_23 : decode cX10_image 23 = .ok (.iconst 0, 1) := by decide +kernel
theorem dX10_image_24 : decode cX10_image 24 = .ok (.iaload, 1) := by decide +kernel
theorem dX10_image_25 : decode cX10_image 25 = .ok (.ireturn, 1) := by decide +kernel
theorem dX10_back_0 : decode cX10_back 0 = .ok (.aload_n 0, 1) := by decide +kernel
theorem dX10_back_1 : decode cX10_back 1 = .ok (.getfield 33, 3) := by decide +kernel
theorem dX10_back_4 : decode cX10_back 4 = .ok (.ifCond .ne 6, 3) := by decide +kernel
theorem dX10_back_7 : decode cX10_back 7 = .ok (.bipush (-5), 2) := by decide +kernel
theorem dX10_back_9 : decode cX10_back 9 = .ok (.ireturn, 1) := by decide +kernel
theorem dX10_back_10 : decode cX10_back 10 = .ok (.aload_n 0, 1) := by decide +kernel
theorem dX10_back_11 : decode cX10_back 11 = .ok (.getfield 26, 3) := by decide +kernel
theorem dX10_back_14 : decode cX10_back 14 = .ok (.aload_n 0, 1) := by decide +kernel
theorem dX10_back_15 : decode cX10_back 15 = .ok (.getfield 30, 3) := by decide +kernel
theorem dX10_back_18 : decode cX10_back 18 = .ok (.invokevirtual 358, 3) := by decide +kernel
theorem dX10_back_21 : decode cX10_back 21 = .ok (.aload_n 0, 1) := by decide +kernel
theorem dX10_back_22 : decode cX10_back 22 = .ok (.getfield 26, 3) := by decide +kernel
theorem dX10_back_25 : decode cX10_back 25 = .ok (.getfield 355, 3) := by decide +kernel
theorem dX10_back_28 : decode cX10_back 28 = .ok (.iconst 0, 1) := by decide +kernel
theorem dX10_back_29 : decode cX10_back 29 = .ok (.iaload, 1) := by decide +kernel
theorem dX10_back_30 : decode cX10_back 30 = .ok (.ireturn, 1) := by decide +kernel
theorem dX10_undo_0 : decode cX10_undo 0 = .ok (.aload_n 0, 1) := by decide +kernel
theorem dX10_undo_1 : decode cX10_undo 1 = .ok (.getfield 19, 3) := by decide +kernel
theorem dX10_undo_4 : decode cX10_undo 4 = .ok (.getfield 362, 3) := by decide +kernel
theorem dX10_undo_7 : decode cX10_undo 7 = .ok (.ifCond .ne 6, 3) := by decide +kernel
theorem dX10_undo_10 : decode cX10_undo 10 = .ok (.bipush (-5), 2) := by decide +kernel
theorem dX10_undo_12 : decode cX10_undo 12 = .ok (.ireturn, 1) := by decide +kernel
theorem dX10_undo_13 : decode cX10_undo 13 = .ok (.aload_n 0, 1) := by decide +kernel
theorem dX10_undo_14 : decode cX10_undo 14 = .ok (.getfield 19, 3) := by decide +kernel
theorem dX10_undo_17 : decode cX10_undo 17 = .ok (.aload_n 0, 1) := by decide +kernel
theorem dX10_undo_18 : decode cX10_undo 18 = .ok (.getfield 10, 3) := by decide +kernel
theorem dX10_undo_21 : decode cX10_undo 21 = .ok (.invokevirtual 365, 3) := by decide +kernel
theorem dX10_undo_24 : decode cX10_undo 24 = .ok (.aload_n 0, 1) := by decide +kernel
theorem dX10_undo_25 : decode cX10_undo 25 = .ok (.getfield 19, 3) := by decide +kernel
theorem dX10_undo_28 : decode cX10_undo 28 = .ok (.getfield 362, 3) := by decide +kernel
theorem dX10_undo_31 : decode cX10_undo 31 = .ok (.ireturn, 1) := by decide +kernel
theorem dX10_redo_0 : decode cX10_redo 0 = .ok (.aload_n 0, 1) := by decide +kernel
theorem dX10_redo_1 : decode cX10_redo 1 = .ok (.getfield 19, 3) := by decide +kernel
theorem dX10_redo_4 : decode cX10_redo 4 = .ok (.getfield 362, 3) := by decide +kernel
theorem dX10_redo_7 : decode cX10_redo 7 = .ok (.aload_n 0, 1) := by decide +kernel
theorem dX10_redo_8 : decode cX10_redo 8 = .ok (.getfield 19, 3) := by decide +kernel
theorem dX10_redo_11 : decode cX10_redo 11 = .ok (.getfield 369, 3) := by decide +kernel
theorem dX10_redo_14 : decode cX10_redo 14 = .ok (.if_icmp .ne 6, 3) := by decide +kernel
theorem dX10_redo_17 : decode cX10_redo 17 = .ok (.bipush (-5), 2) := by decide +kernel
theorem dX10_redo_19 : decode cX10_redo 19 = .ok (.ireturn, 1) := by decide +kernel
theorem dX10_redo_20 : decode cX10_redo 20 = .ok (.aload_n 0, 1) := by decide +kernel
theorem dX10_redo_21 : decode cX10_redo 21 = .ok (.getfield 19, 3) := by decide +kernel
theorem dX10_redo_24 : decode cX10_redo 24 = .ok (.aload_n 0, 1) := by decide +kernel
theorem dX10_redo_25 : decode cX10_redo 25 = .ok (.getfield 10, 3) := by decide +kernel
theorem dX10_redo_28 : decode cX10_redo 28 = .ok (.invokevirtual 370, 3) := by decide +kernel
theorem dX10_redo_31 : decode cX10_redo 31 = .ok (.aload_n 0, 1) := by decide +kernel
theorem dX10_redo_32 : decode cX10_redo 32 = .ok (.getfield 19, 3) := by decide +kernel
theorem dX10_redo_35 : decode cX10_redo 35 = .ok (.getfield 369, 3) := by decide +kernel
theorem dX10_redo_38 : decode cX10_redo 38 = .ok (.aload_n 0, 1) := by decide +kernel
theorem dX10_redo_39 : decode cX10_redo 39 = .ok (.getfield 19, 3) := by decide +kernel
theorem dX10_redo_42 : decode cX10_redo 42 = .ok (.getfield 362, 3) := by decide +kernel
theorem dX10_redo_45 : decode cX10_redo 45 = .ok (.isub, 1) := by decide +kernel
theorem dX10_redo_46 : decode cX10_redo 46 = .ok (.ireturn, 1) := by decide +kernel
theorem dX10_body_0 : decode cX10_body 0 = .ok (.iload_n 1, 1) := by decide +kernel
theorem dX10_body_1 : decode cX10_body 1 = .ok (.bipush 7, 2) := by decide +kernel
theorem dX10_body_3 : decode cX10_body 3 = .ok (.invokestatic 90, 3) := by decide +kernel
theorem dX10_body_6 : decode cX10_body 6 = .ok (.ifCond .ne 5, 3) := by decide +kernel
theorem dX10_body_9 : decode cX10_body 9 = .ok (.iconst (-1), 1) := by decide +kernel
theorem dX10_body_10 : decode cX10_body 10 = .ok (.ireturn, 1) := by decide +kernel
theorem dX10_body_11 : decode cX10_body 11 = .ok (.aload_n 0, 1) := by decide +kernel
theorem dX10_body_12 : decode cX10_body 12 = .ok (.getfield 75, 3) := by decide +kernel
theorem dX10_body_15 : decode cX10_body 15 = .ok (.getfield 373, 3) := by decide +kernel
theorem dX10_body_18 : decode cX10_body 18 = .ok (.bipush 50, 2) := by decide +kernel
theorem dX10_body_20 : decode cX10_body 20 = .ok (.if_icmp .lt 6, 3) := by decide +kernel
theorem dX10_body_23 : decode cX10_body 23 = .ok (.bipush (-3), 2) := by decide +kernel
theorem dX10_body_25 : decode cX10_body 25 = .ok (.ireturn, 1) := by decide +kernel
theorem dX10_body_26 : decode cX10_body 26 = .ok (.aload_n 0, 1) := by decide +kernel
theorem dX10_body_27 : decode cX10_body 27 = .ok (.getfield 75, 3) := by decide +kernel
theorem dX10_body_30 : decode cX10_body 30 = .ok (.iload_n 1, 1) := by decide +kernel
theorem dX10_body_31 : decode cX10_body 31 = .ok (.invokevirtual 374, 3) := by decide +kernel
theorem dX10_body_34 : decode cX10_body 34 = .ok (.ireturn, 1) := by decide +kernel
theorem dX10_act_0 : decode cX10_act 0 = .ok (.aload_n 0, 1) := by decide +kernel
theorem dX10_act_1 : decode cX10_act 1 = .ok (.getfield 75, 3) := by decide +kernel
theorem dX10_act_4 : decode cX10_act 4 = .ok (.iconst 0, 1) := by decide +kernel
theorem dX10_act_5 : decode cX10_act 5 = .ok (.putfield 376, 3) := by decide +kernel
theorem dX10_act_8 : decode cX10_act 8 = .ok (.aload_n 0, 1) := by decide +kernel
theorem dX10_act_9 : decode cX10_act 9 = .ok (.iload_n 1, 1) := by decide +kernel
theorem dX10_act_10 : decode cX10_act 10 = .ok (.invokevirtual 379, 3) := by decide +kernel
theorem dX10_act_13 : decode cX10_act 13 = .ok (.ifCond .eq 11, 3) := by decide +kernel
theorem dX10_act_16 : decode cX10_act 16 = .ok (.iload_n 2, 1) := by decide +kernel
theorem dX10_act_17 : decode cX10_act 17 = .ok (.iconst 3, 1) := by decide +kernel
theorem dX10_act_18 : decode cX10_act 18 = .ok (.invokestatic 90, 3) := by decide +kernel
theorem dX10_act_21 : decode cX10_act 21 = .ok (.ifCond .ne 5, 3) := by decide +kernel
theorem dX10_act_24 : decode cX10_act 24 = .ok (.iconst 0, 1) := by decide +kernel
theorem dX10_act_25 : decode cX10_act 25 = .ok (.ireturn, 1) := by decide +kernel
theorem dX10_act_26 : decode cX10_act 26 = .ok (.aload_n 0, 1) := by decide +kernel
theorem dX10_act_27 : decode cX10_act 27 = .ok (.getfield 75, 3) := by decide +kernel
theorem dX10_act_30 : decode cX10_act 30 = .ok (.iload_n 1, 1) := by decide +kernel
theorem dX10_act_31 : decode cX10_act 31 = .ok (.iload_n 2, 1) := by decide +kernel
theorem dX10_act_32 : decode cX10_act 32 = .ok (.iload_n 3, 1) := by decide +kernel
theorem dX10_act_33 : decode cX10_act 33 = .ok (.invokevirtual 382, 3) := by decide +kernel
theorem dX10_act_36 : decode cX10_act 36 = .ok (.ireturn, 1) := by decide +kernel
theorem dX10_trace_0 : decode cX10_trace 0 = .ok (.iload_n 1, 1) := by decide +kernel
theorem dX10_trace_1 : decode cX10_trace 1 = .ok (.ifCond .lt 31, 3) := by decide +kernel
theorem dX10_trace_4 : decode cX10_trace 4 = .ok (.iload_n 1, 1) := by decide +kernel
theorem dX10_trace_5 : decode cX10_trace 5 = .ok (.aload_n 0, 1) := by decide +kernel
theorem dX10_trace_6 : decode cX10_trace 6 = .ok (.getfield 75, 3) := by decide +kernel
theorem dX10_trace_9 : decode cX10_trace 9 = .ok (.getfield 376, 3) := by decide +kernel
theorem dX10_trace_12 : decode cX10_trace 12 = .ok (.bipush 24, 2) := by decide +kernel
theorem dX10_trace_14 : decode cX10_trace 14 = .ok (.invokestatic 254, 3) := by decide +kernel
theorem dX10_trace_17 : decode cX10_trace 17 = .ok (.if_icmp .ge 15, 3) := by decide +kernel
theorem dX10_trace_20 : decode cX10_trace 20 = .ok (.aload_n 0, 1) := by decide +kernel
theorem dX10_trace_21 : decode cX10_trace 21 = .ok (.getfield 75, 3) := by decide +kernel
theorem dX10_trace_24 : decode cX10_trace 24 = .ok (.getfield 386, 3) := by decide +kernel
theorem dX10_trace_27 : decode cX10_trace 27 = .ok (.iload_n 1, 1) := by decide +kernel
theorem dX10_trace_28 : decode cX10_trace 28 = .ok (.iaload, 1) := by decide +kernel
theorem dX10_trace_29 : decode cX10_trace 29 = .ok (.goto 4, 3) := by decide +kernel
theorem dX10_trace_32 : decode cX10_trace 32 = .ok (.iconst (-1), 1) := by decide +kernel
theorem dX10_trace_33 : decode cX10_trace 33 = .ok (.ireturn, 1) := by decide +kernel
theorem dX10_keep_0 : decode cX10_keep 0 = .ok (.iload_n 1, 1) := by decide +kernel
theorem dX10_keep_1 : decode cX10_keep 1 = .ok (.invokestatic 102, 3) := by decide +kernel
theorem dX10_keep_4 : decode cX10_keep 4 = .ok (.ifCond .eq 16, 3) := by decide +kernel
theorem dX10_keep_7 : decode cX10_keep 7 = .ok (.iload_n 2, 1) := by decide +kernel
theorem dX10_keep_8 : decode cX10_keep 8 = .ok (.iconst (-1), 1) := by decide +kernel
theorem dX10_keep_9 : decode cX10_keep 9 = .ok (.if_icmp .eq 13, 3) := by decide +kernel
theorem dX10_keep_12 : decode cX10_keep 12 = .ok (.aload_n 0, 1) := by decide +kernel
theorem dX10_keep_13 : decode cX10_keep 13 = .ok (.iload_n 2, 1) := by decide +kernel
theorem dX10_keep_14 : decode cX10_keep 14 = .ok (.invokevirtual 379, 3) := by decide +kernel
theorem dX10_keep_17 : decode cX10_keep 17 = .ok (.ifCond .ne 5, 3) := by decide +kernel
theorem dX10_keep_20 : decode cX10_keep 20 = .ok (.iconst (-1), 1) := by decide +kernel
theorem dX10_keep_21 : decode cX10_keep 21 = .ok (.ireturn, 1) := by decide +kernel
theorem dX10_keep_22 : decode cX10_keep 22 = .ok (.aload_n 0, 1) := by decide +kernel
theorem dX10_keep_23 : decode cX10_keep 23 = .ok (.getfield 81, 3) := by decide +kernel
theorem dX10_keep_26 : decode cX10_keep 26 = .ok (.iload_n 1, 1) := by decide +kernel
theorem dX10_keep_27 : decode cX10_keep 27 = .ok (.aaload, 1) := by decide +kernel
theorem dX10_keep_28 : decode cX10_keep 28 = .ok (.iload_n 2, 1) := by decide +kernel
theorem dX10_keep_29 : decode cX10_keep 29 = .ok (.invokevirtual 389, 3) := by decide +kernel
theorem dX10_keep_32 : decode cX10_keep 32 = .ok (.iconst 1, 1) := by decide +kernel
theorem dX10_keep_33 : decode cX10_keep 33 = .ok (.ireturn, 1) := by decide +kernel
theorem dX10_row_0 : decode cX10_row 0 = .ok (.iload_n 1, 1) := by decide +kernel
theorem dX10_row_1 : decode cX10_row 1 = .ok (.invokestatic 102, 3) := by decide +kernel
theorem dX10_row_4 : decode cX10_row 4 = .ok (.ifCond .eq 17, 3) := by decide +kernel
theorem dX10_row_7 : decode cX10_row 7 = .ok (.iload_n 2, 1) := by decide +kernel
theorem dX10_row_8 : decode cX10_row 8 = .ok (.iconst 4, 1) := by decide +kernel
theorem dX10_row_9 : decode cX10_row 9 = .ok (.invokestatic 90, 3) := by decide +kernel
theorem dX10_row_12 : decode cX10_row 12 = .ok (.ifCond .eq 9, 3) := by decide +kernel
theorem dX10_row_15 : decode cX10_row 15 = .ok (.iload_n 3, 1) := by decide +kernel
theorem dX10_row_16 : decode cX10_row 16 = .ok (.bipush 60, 2) := by decide +kernel
theorem dX10_row_18 : decode cX10_row 18 = .ok (.if_icmp .le 5, 3) := by decide +kernel
theorem dX10_row_21 : decode cX10_row 21 = .ok (.iconst (-1), 1) := by decide +kernel
theorem dX10_row_22 : decode cX10_row 22 = .ok (.ireturn, 1) := by decide +kernel
theorem dX10_row_23 : decode cX10_row 23 = .ok (.iload_n 3, 1) := by decide +kernel
theorem dX10_row_24 : decode cX10_row 24 = .ok (.ifCond .ge 6, 3) := by decide +kernel
theorem dX10_row_27 : decode cX10_row 27 = .ok (.bipush (-14), 2) := by decide +kernel
theorem dX10_row_29 : decode cX10_row 29 = .ok (.ireturn, 1) := by decide +kernel
theorem dX10_row_30 : decode cX10_row 30 = .ok (.aload_n 0, 1) := by decide +kernel
theorem dX10_row_31 : decode cX10_row 31 = .ok (.getfield 81, 3) := by decide +kernel
theorem dX10_row_34 : decode cX10_row 34 = .ok (.iload_n 1, 1) := by decide +kernel
theorem dX10_row_35 : decode cX10_row 35 = .ok (.aaload, 1) := by decide +kernel
theorem dX10_row_36 : decode cX10_row 36 = .ok (.iload_n 2, 1) := by decide +kernel
theorem dX10_row_37 : decode cX10_row 37 = .ok (.iload_n 3, 1) := by decide +kernel
theorem dX10_row_38 : decode cX10_row 38 = .ok (.invokevirtual 392, 3) := by decide +kernel
theorem dX10_row_41 : decode cX10_row 41 = .ok (.iconst 1, 1) := by decide +kernel
theorem dX10_row_42 : decode cX10_row 42 = .ok (.ireturn, 1) := by decide +kernel
theorem dX10_put_0 : decode cX10_put 0 = .ok (.iload_n 1, 1) := by decide +kernel
theorem dX10_put_1 : decode cX10_put 1 = .ok (.invokestatic 102, 3) := by decide +kernel
theorem dX10_put_4 : decode cX10_put 4 = .ok (.ifCond .ne 5, 3) := by decide +kernel
theorem dX10_put_7 : decode cX10_put 7 = .ok (.iconst (-1), 1) := by decide +kernel
theorem dX10_put_8 : decode cX10_put 8 = .ok (.ireturn, 1) := by decide +kernel
theorem dX10_put_9 : decode cX10_put 9 = .ok (.aload_n 0, 1) := by decide +kernel
theorem dX10_put_10 : decode cX10_put 10 = .ok (.getfield 81, 3) := by decide +kernel
theorem dX10_put_13 : decode cX10_put 13 = .ok (.iload_n 1, 1) := by decide +kernel
theorem dX10_put_14 : decode cX10_put 14 = .ok (.aaload, 1) := by decide +kernel
theorem dX10_put_15 : decode cX10_put 15 = .ok (.iload_n 2, 1) := by decide +kernel
theorem dX10_put_16 : decode cX10_put 16 = .ok (.invokevirtual 395, 3) := by decide +kernel
theorem dX10_put_19 : decode cX10_put 19 = .ok (.istore 5, 2) := by decide +kernel
theorem dX10_put_21 : decode cX10_put 21 = .ok (.iload 5, 2) := by decide +kernel
theorem dX10_put_23 : decode cX10_put 23 = .ok (.ifCond .eq 6, 3) := by decide +kernel
theorem dX10_put_26 : decode cX10_put 26 = .ok (.iload 5, 2) := by decide +kernel
theorem dX10_put_28 : decode cX10_put 28 = .ok (.ireturn, 1) := by decide +kernel
theorem dX10_put_29 : decode cX10_put 29 = .ok (.aload_n 0, 1) := by decide +kernel
theorem dX10_put_30 : decode cX10_put 30 = .ok (.getfield 81, 3) := by decide +kernel
theorem dX10_put_33 : decode cX10_put 33 = .ok (.iload_n 1, 1) := by decide +kernel
theorem dX10_put_34 : decode cX10_put 34 = .ok (.aaload, 1) := by decide +kernel
theorem dX10_put_35 : decode cX10_put 35 = .ok (.iload_n 2, 1) := by decide +kernel
theorem dX10_put_36 : decode cX10_put 36 = .ok (.lload_n 3, 1) := by decide +kernel
theorem dX10_put_37 : decode cX10_put 37 = .ok (.invokevirtual 398, 3) := by decide +kernel
theorem dX10_put_40 : decode cX10_put 40 = .ok (.iconst 1, 1) := by decide +kernel
theorem dX10_put_41 : decode cX10_put 41 = .ok (.ireturn, 1) := by decide +kernel
theorem dX10_element_0 : decode cX10_element 0 = .ok (.iload_n 1, 1) := by decide +kernel
theorem dX10_element_1 : decode cX10_element 1 = .ok (.invokestatic 102, 3) := by decide +kernel
theorem dX10_element_4 : decode cX10_element 4 = .ok (.ifCond .eq 16, 3) := by decide +kernel
theorem dX10_element_7 : decode cX10_element 7 = .ok (.aload_n 0, 1) := by decide +kernel
theorem dX10_element_8 : decode cX10_element 8 = .ok (.getfield 81, 3) := by decide +kernel
theorem dX10_element_11 : decode cX10_element 11 = .ok (.iload_n 1, 1) := by decide +kernel
theorem dX10_element_12 : decode cX10_element 12 = .ok (.aaload, 1) := by decide +kernel
theorem dX10_element_13 : decode cX10_element 13 = .ok (.iload_n 2, 1) := by decide +kernel
theorem dX10_element_14 : decode cX10_element 14 = .ok (.invokevirtual 395, 3) := by decide +kernel
theorem dX10_element_17 : decode cX10_element 17 = .ok (.ifCond .eq 7, 3) := by decide +kernel
theorem dX10_element_20 : decode cX10_element 20 = .ok (.ldc2_w 159, 3) := by decide +kernel
theorem dX10_element_23 : decode cX10_element 23 = .ok (.lreturn, 1) := by decide +kernel
theorem dX10_element_24 : decode cX10_element 24 = .ok (.aload_n 0, 1) := by decide +kernel
theorem dX10_element_25 : decode cX10_element 25 = .ok (.getfield 81, 3) := by decide +kernel
theorem dX10_element_28 : decode cX10_element 28 = .ok (.iload_n 1, 1) := by decide +kernel
theorem dX10_element_29 : decode cX10_element 29 = .ok (.aaload, 1) := by decide +kernel
theorem dX10_element_30 : decode cX10_element 30 = .ok (.iload_n 2, 1) := by decide +kernel
theorem dX10_element_31 : decode cX10_element 31 = .ok (.invokevirtual 286, 3) := by decide +kernel
theorem dX10_element_34 : decode cX10_element 34 = .ok (.lreturn, 1) := by decide +kernel
theorem dX10_shift_0 : decode cX10_shift 0 = .ok (.iload_n 1, 1) := by decide +kernel
theorem dX10_shift_1 : decode cX10_shift 1 = .ok (.invokestatic 102, 3) := by decide +kernel
theorem dX10_shift_4 : decode cX10_shift 4 = .ok (.ifCond .eq 10, 3) := by decide +kernel
theorem dX10_shift_7 : decode cX10_shift 7 = .ok (.iload_n 3, 1) := by decide +kernel
theorem dX10_shift_8 : decode cX10_shift 8 = .ok (.invokestatic 102, 3) := by decide +kernel
theorem dX10_shift_11 : decode cX10_shift 11 = .ok (.ifCond .ne 5, 3) := by decide +kernel
theorem dX10_shift_14 : decode cX10_shift 14 = .ok (.iconst (-1), 1) := by decide +kernel
theorem dX10_shift_15 : decode cX10_shift 15 = .ok (.ireturn, 1) := by decide +kernel
theorem dX10_shift_16 : decode cX10_shift 16 = .ok (.aload_n 0, 1) := by decide +kernel
theorem dX10_shift_17 : decode cX10_shift 17 = .ok (.getfield 81, 3) := by decide +kernel
theorem dX10_shift_20 : decode cX10_shift 20 = .ok (.iload_n 1, 1) := by decide +kernel
theorem dX10_shift_21 : decode cX10_shift 21 = .ok (.aaload, 1) := by decide +kernel
theorem dX10_shift_22 : decode cX10_shift 22 = .ok (.astore 6, 2) := by decide +kernel
theorem dX10_shift_24 : decode cX10_shift 24 = .ok (.aload_n 0, 1) := by decide +kernel
theorem dX10_shift_25 : decode cX10_shift 25 = .ok (.getfield 81, 3) := by decide +kernel
theorem dX10_shift_28 : decode cX10_shift 28 = .ok (.iload_n 3, 1) := by decide +kernel
theorem dX10_shift_29 : decode cX10_shift 29 = .ok (.aaload, 1) := by decide +kernel
theorem dX10_shift_30 : decode cX10_shift 30 = .ok (.astore 7, 2) := by decide +kernel
theorem dX10_shift_32 : decode cX10_shift 32 = .ok (.aload 6, 2) := by decide +kernel
theorem dX10_shift_34 : decode cX10_shift 34 = .ok (.getfield 106, 3) := by decide +kernel
theorem dX10_shift_37 : decode cX10_shift 37 = .ok (.ifCond .eq 11, 3) := by decide +kernel
theorem dX10_shift_40 : decode cX10_shift 40 = .ok (.aload 7, 2) := by decide +kernel
theorem dX10_shift_42 : decode cX10_shift 42 = .ok (.getfield 106, 3) := by decide +kernel
theorem dX10_shift_45 : decode cX10_shift 45 = .ok (.ifCond .ne 6, 3) := by decide +kernel
theorem dX10_shift_48 : decode cX10_shift 48 = .ok (.bipush (-11), 2) := by decide +kernel
theorem dX10_shift_50 : decode cX10_shift 50 = .ok (.ireturn, 1) := by decide +kernel
theorem dX10_shift_51 : decode cX10_shift 51 = .ok (.aload 6, 2) := by decide +kernel
theorem dX10_shift_53 : decode cX10_shift 53 = .ok (.getfield 106, 3) := by decide +kernel
theorem dX10_shift_56 : decode cX10_shift 56 = .ok (.iconst 2, 1) := by decide +kernel
theorem dX10_shift_57 : decode cX10_shift 57 = .ok (.if_icmp .ne 25, 3) := by decide +kernel
theorem dX10_shift_60 : decode cX10_shift 60 = .ok (.aload 7, 2) := by decide +kernel
theorem dX10_shift_62 : decode cX10_shift 62 = .ok (.getfield 106, 3) := by decide +kernel
theorem dX10_shift_65 : decode cX10_shift 65 = .ok (.iconst 2, 1) := by decide +kernel
theorem dX10_shift_66 : decode cX10_shift 66 = .ok (.if_icmp .ne 16, 3) := by decide +kernel
theorem dX10_shift_69 : decode cX10_shift 69 = .ok (.aload 6, 2) := by decide +kernel
theorem dX10_shift_71 : decode cX10_shift 71 = .ok (.getfield 401, 3) := by decide +kernel
theorem dX10_shift_74 : decode cX10_shift 74 = .ok (.aload 7, 2) := by decide +kernel
theorem dX10_shift_76 : decode cX10_shift 76 = .ok (.getfield 401, 3) := by decide +kernel
theorem dX10_shift_79 : decode cX10_shift 79 = .ok (.if_icmp .eq 6, 3) := by decide +kernel
theorem dX10_shift_82 : decode cX10_shift 82 = .ok (.bipush (-12), 2) := by decide +kernel
theorem dX10_shift_84 : decode cX10_shift 84 = .ok (.ireturn, 1) := by decide +kernel
theorem dX10_shift_85 : decode cX10_shift 85 = .ok (.aload 6, 2) := by decide +kernel
theorem dX10_shift_87 : decode cX10_shift 87 = .ok (.iload_n 2, 1) := by decide +kernel
theorem dX10_shift_88 : decode cX10_shift 88 = .ok (.iload 5, 2) := by decide +kernel
theorem dX10_shift_90 : decode cX10_shift 90 = .ok (.invokevirtual 404, 3) := by decide +kernel
theorem dX10_shift_93 : decode cX10_shift 93 = .ok (.ifCond .eq 15, 3) := by decide +kernel
theorem dX10_shift_96 : decode cX10_shift 96 = .ok (.aload 7, 2) := by decide +kernel
theorem dX10_shift_98 : decode cX10_shift 98 = .ok (.iload 4, 2) := by decide +kernel
theorem dX10_shift_100 : decode cX10_shift 100 = .ok (.iload 5, 2) := by decide +kernel
theorem dX10_shift_102 : decode cX10_shift 102 = .ok (.invokevirtual 404, 3) := by decide +kernel
theorem dX10_shift_105 : decode cX10_shift 105 = .ok (.ifCond .ne 6, 3) := by decide +kernel
theorem dX10_shift_108 : decode cX10_shift 108 = .ok (.bipush (-13), 2) := by decide +kernel
theorem dX10_shift_110 : decode cX10_shift 110 = .ok (.ireturn, 1) := by decide +kernel
theorem dX10_shift_111 : decode cX10_shift 111 = .ok (.aload 6, 2) := by decide +kernel
theorem dX10_shift_113 : decode cX10_shift 113 = .ok (.getfield 407, 3) := by decide +kernel
theorem dX10_shift_116 : decode cX10_shift 116 = .ok (.iload_n 2, 1) := by decide +kernel
theorem dX10_shift_117 : decode cX10_shift 117 = .ok (.aload 7, 2) := by decide +kernel
theorem dX10_shift_119 : decode cX10_shift 119 = .ok (.getfield 407, 3) := by decide +kernel
theorem dX10_shift_122 : decode cX10_shift 122 = .ok (.iload 4, 2) := by decide +kernel
theorem dX10_shift_124 : decode cX10_shift 124 = .ok (.iload 5, 2) := by decide +kernel
theorem dX10_shift_126 : decode cX10_shift 126 = .ok (.invokestatic 411, 3) := by decide +kernel
theorem dX10_shift_129 : decode cX10_shift 129 = .ok (.iload 5, 2) := by decide +kernel
theorem dX10_shift_131 : decode cX10_shift 131 = .ok (.ireturn, 1) := by decide +kernel
theorem dX10_taken_0 : decode cX10_taken 0 = .ok (.iload_n 1, 1) := by decide +kernel
theorem dX10_taken_1 : decode cX10_taken 1 = .ok (.invokestatic 102, 3) := by decide +kernel
theorem dX10_taken_4 : decode cX10_taken 4 = .ok (.ifCond .eq 12, 3) := by decide +kernel
theorem dX10_taken_7 : decode cX10_taken 7 = .ok (.iload_n 2, 1) := by decide +kernel
theorem dX10_taken_8 : decode cX10_taken 8 = .ok (.bipush 7, 2) := by decide +kernel
theorem dX10_taken_10 : decode cX10_taken 10 = .ok (.invokestatic 90, 3) := by decide +kernel
theorem dX10_taken_13 : decode cX10_taken 13 = .ok (.ifCond .ne 5, 3) := by decide +kernel
theorem dX10_taken_16 : decode cX10_taken 16 = .ok (.iconst (-1), 1) := by decide +kernel
theorem dX10_taken_17 : decode cX10_taken 17 = .ok (.ireturn, 1) := by decide +kernel
theorem dX10_taken_18 : decode cX10_taken 18 = .ok (.aload_n 0, 1) := by decide +kernel
theorem dX10_taken_19 : decode cX10_taken 19 = .ok (.getfield 81, 3) := by decide +kernel
theorem dX10_taken_22 : decode cX10_taken 22 = .ok (.iload_n 1, 1) := by decide +kernel
theorem dX10_taken_23 : decode cX10_taken 23 = .ok (.aaload, 1) := by decide +kernel
theorem dX10_taken_24 : decode cX10_taken 24 = .ok (.astore_n 3, 1) := by decide +kernel
theorem dX10_taken_25 : decode cX10_taken 25 = .ok (.aload_n 3, 1) := by decide +kernel
theorem dX10_taken_26 : decode cX10_taken 26 = .ok (.getfield 106, 3) := by decide +kernel
theorem dX10_taken_29 : decode cX10_taken 29 = .ok (.ifCond .ne 6, 3) := by decide +kernel
theorem dX10_taken_32 : decode cX10_taken 32 = .ok (.bipush (-11), 2) := by decide +kernel
theorem dX10_taken_34 : decode cX10_taken 34 = .ok (.ireturn, 1) := by decide +kernel
theorem dX10_taken_35 : decode cX10_taken 35 = .ok (.aload_n 3, 1) := by decide +kernel
theorem dX10_taken_36 : decode cX10_taken 36 = .ok (.getfield 106, 3) := by decide +kernel
theorem dX10_taken_39 : decode cX10_taken 39 = .ok (.iconst 1, 1) := by decide +kernel
theorem dX10_taken_40 : decode cX10_taken 40 = .ok (.if_icmp .ne 14, 3) := by decide +kernel
theorem dX10_taken_43 : decode cX10_taken 43 = .ok (.aload_n 0, 1) := by decide +kernel
theorem dX10_taken_44 : decode cX10_taken 44 = .ok (.aload_n 3, 1) := by decide +kernel
theorem dX10_taken_45 : decode cX10_taken 45 = .ok (.getfield 417, 3) := by decide +kernel
theorem dX10_taken_48 : decode cX10_taken 48 = .ok (.invokevirtual 379, 3) := by decide +kernel
theorem dX10_taken_51 : decode cX10_taken 51 = .ok (.ifCond .ne 6, 3) := by decide +kernel
theorem dX10_taken_54 : decode cX10_taken 54 = .ok (.bipush (-12), 2) := by decide +kernel
theorem dX10_taken_56 : decode cX10_taken 56 = .ok (.ireturn, 1) := by decide +kernel
theorem dX10_taken_57 : decode cX10_taken 57 = .ok (.aload_n 0, 1) := by decide +kernel
theorem dX10_taken_58 : decode cX10_taken 58 = .ok (.getfield 75, 3) := by decide +kernel
theorem dX10_taken_61 : decode cX10_taken 61 = .ok (.getfield 420, 3) := by decide +kernel
theorem dX10_taken_64 : decode cX10_taken 64 = .ok (.aload_n 3, 1) := by decide +kernel
theorem dX10_taken_65 : decode cX10_taken 65 = .ok (.getfield 417, 3) := by decide +kernel
theorem dX10_taken_68 : decode cX10_taken 68 = .ok (.iaload, 1) := by decide +kernel
theorem dX10_taken_69 : decode cX10_taken 69 = .ok (.istore 4, 2) := by decide +kernel
theorem dX10_taken_71 : decode cX10_taken 71 = .ok (.iload 4, 2) := by decide +kernel
theorem dX10_taken_73 : decode cX10_taken 73 = .ok (.iload_n 2, 1) := by decide +kernel
theorem dX10_taken_74 : decode cX10_taken 74 = .ok (.invokestatic 423, 3) := by decide +kernel
theorem dX10_taken_77 : decode cX10_taken 77 = .ok (.ifCond .eq 8, 3) := by decide +kernel
theorem dX10_taken_80 : decode cX10_taken 80 = .ok (.iload 4, 2) := by decide +kernel
theorem dX10_taken_82 : decode cX10_taken 82 = .ok (.goto 5, 3) := by decide +kernel
theorem dX10_taken_85 : decode cX10_taken 85 = .ok (.bipush (-12), 2) := by decide +kernel
theorem dX10_taken_87 : decode cX10_taken 87 = .ok (.ireturn, 1) := by decide +kernel
theorem dX10_count_0 : decode cX10_count 0 = .ok (.iload_n 1, 1) := by decide +kernel
theorem dX10_count_1 : decode cX10_count 1 = .ok (.tableswitch 84 0 5 #[39, 47, 52, 60, 68, 76], 39) := by decide +kernel
theorem dX10_count_40 : decode cX10_count 40 = .ok (.aload_n 0, 1) := by decide +kernel
theorem dX10_count_41 : decode cX10_count 41 = .ok (.getfield 10, 3) := by decide +kernel
theorem dX10_count_44 : decode cX10_count 44 = .ok (.getfield 94, 3) := by decide +kernel
theorem dX10_count_47 : decode cX10_count 47 = .ok (.ireturn, 1) := by decide +kernel
theorem dX10_count_48 : decode cX10_count 48 = .ok (.aload_n 0, 1) := by decide +kernel
theorem dX10_count_49 : decode cX10_count 49 = .ok (.invokevirtual 426, 3) := by decide +kernel
theorem dX10_count_52 : decode cX10_count 52 = .ok (.ireturn, 1) := by decide +kernel
theorem dX10_count_53 : decode cX10_count 53 = .ok (.aload_n 0, 1) := by decide +kernel
theorem dX10_count_54 : decode cX10_count 54 = .ok (.getfield 40, 3) := by decide +kernel
theorem dX10_count_57 : decode cX10_count 57 = .ok (.getfield 149, 3) := by decide +kernel
theorem dX10_count_60 : decode cX10_count 60 = .ok (.ireturn, 1) := by decide +kernel
theorem dX10_count_61 : decode cX10_count 61 = .ok (.aload_n 0, 1) := by decide +kernel
theorem dX10_count_62 : decode cX10_count 62 = .ok (.getfield 19, 3) := by decide +kernel
theorem dX10_count_65 : decode cX10_count 65 = .ok (.getfield 362, 3) := by decide +kernel
theorem dX10_count_68 : decode cX10_count 68 = .ok (.ireturn, 1) := by decide +kernel
theorem dX10_count_69 : decode cX10_count 69 = .ok (.aload_n 0, 1) := by decide +kernel
theorem dX10_count_70 : decode cX10_count 70 = .ok (.getfield 75, 3) := by decide +kernel
theorem dX10_count_73 : decode cX10_count 73 = .ok (.getfield 373, 3) := by decide +kernel
theorem dX10_count_76 : decode cX10_count 76 = .ok (.ireturn, 1) := by decide +kernel
theorem dX10_count_77 : decode cX10_count 77 = .ok (.aload_n 0, 1) := by decide +kernel
theorem dX10_count_78 : decode cX10_count 78 = .ok (.getfield 75, 3) := by decide +kernel
theorem dX10_count_81 : decode cX10_count 81 = .ok (.getfield 376, 3) := by decide +kernel
theorem dX10_count_84 : decode cX10_count 84 = .ok (.ireturn, 1) := by decide +kernel
theorem dX10_count_85 : decode cX10_count 85 = .ok (.iconst (-1), 1) := by decide +kernel
theorem dX10_count_86 : decode cX10_count 86 = .ok (.ireturn, 1) := by decide +kernel
theorem dX10_within_0 : decode cX10_within 0 = .ok (.iload_n 0, 1) := by decide +kernel
theorem dX10_within_1 : decode cX10_within 1 = .ok (.ifCond .lt 12, 3) := by decide +kernel
theorem dX10_within_4 : decode cX10_within 4 = .ok (.iload_n 0, 1) := by decide +kernel
theorem dX10_within_5 : decode cX10_within 5 = .ok (.iload_n 1, 1) := by decide +kernel
theorem dX10_within_6 : decode cX10_within 6 = .ok (.if_icmp .gt 7, 3) := by decide +kernel
theorem dX10_within_9 : decode cX10_within 9 = .ok (.iconst 1, 1) := by decide +kernel
theorem dX10_within_10 : decode cX10_within 10 = .ok (.goto 4, 3) := by decide +kernel
theorem dX10_within_13 : decode cX10_within 13 = .ok (.iconst 0, 1) := by decide +kernel
theorem dX10_within_14 : decode cX10_within 14 = .ok (.ireturn, 1) := by decide +kernel
theorem dX10_isWay_0 : decode cX10_isWay 0 = .ok (.iload_n 0, 1) := by decide +kernel
theorem dX10_isWay_1 : decode cX10_isWay 1 = .ok (.iconst 4, 1) := by decide +kernel
theorem dX10_isWay_2 : decode cX10_isWay 2 = .ok (.invokestatic 90, 3) := by decide +kernel
theorem dX10_isWay_5 : decode cX10_isWay 5 = .ok (.ireturn, 1) := by decide +kernel
theorem dX10_isShelf_0 : decode cX10_isShelf 0 = .ok (.iload_n 0, 1) := by decide +kernel
theorem dX10_isShelf_1 : decode cX10_isShelf 1 = .ok (.iconst 5, 1) := by decide +kernel
theorem dX10_isShelf_2 : decode cX10_isShelf 2 = .ok (.invokestatic 90, 3) := by decide +kernel
theorem dX10_isShelf_5 : decode cX10_isShelf 5 = .ok (.ireturn, 1) := by decide +kernel
theorem dX10_isGoer_0 : decode cX10_isGoer 0 = .ok (.iload_n 1, 1) := by decide +kernel
theorem dX10_isGoer_1 : decode cX10_isGoer 1 = .ok (.ifCond .lt 18, 3) := by decide +kernel
theorem dX10_isGoer_4 : decode cX10_isGoer 4 = .ok (.iload_n 1, 1) := by decide +kernel
theorem dX10_isGoer_5 : decode cX10_isGoer 5 = .ok (.aload_n 0, 1) := by decide +kernel
theorem dX10_isGoer_6 : decode cX10_isGoer 6 = .ok (.getfield 75, 3) := by decide +kernel
theorem dX10_isGoer_9 : decode cX10_isGoer 9 = .ok (.getfield 373, 3) := by decide +kernel
theorem dX10_isGoer_12 : decode cX10_isGoer 12 = .ok (.if_icmp .ge 7, 3) := by decide +kernel
theorem dX10_isGoer_15 : decode cX10_isGoer 15 = .ok (.iconst 1, 1) := by decide +kernel
theorem dX10_isGoer_16 : decode cX10_isGoer 16 = .ok (.goto 4, 3) := by decide +kernel
theorem dX10_isGoer_19 : decode cX10_isGoer 19 = .ok (.iconst 0, 1) := by decide +kernel
theorem dX10_isGoer_20 : decode cX10_isGoer 20 = .ok (.ireturn, 1) := by decide +kernel
theorem dX10_isThing_0 : decode cX10_isThing 0 = .ok (.iload_n 1, 1) := by decide +kernel
theorem dX10_isThing_1 : decode cX10_isThing 1 = .ok (.ifCond .lt 18, 3) := by decide +kernel
theorem dX10_isThing_4 : decode cX10_isThing 4 = .ok (.iload_n 1, 1) := by decide +kernel
theorem dX10_isThing_5 : decode cX10_isThing 5 = .ok (.aload_n 0, 1) := by decide +kernel
theorem dX10_isThing_6 : decode cX10_isThing 6 = .ok (.getfield 10, 3) := by decide +kernel
theorem dX10_isThing_9 : decode cX10_isThing 9 = .ok (.getfield 94, 3) := by decide +kernel
theorem dX10_isThing_12 : decode cX10_isThing 12 = .ok (.if_icmp .ge 7, 3) := by decide +kernel
theorem dX10_isThing_15 : decode cX10_isThing 15 = .ok (.iconst 1, 1) := by decide +kernel
theorem dX10_isThing_16 : decode cX10_isThing 16 = .ok (.goto 4, 3) := by decide +kernel
theorem dX10_isThing_19 : decode cX10_isThing 19 = .ok (.iconst 0, 1) := by decide +kernel
theorem dX10_isThing_20 : decode cX10_isThing 20 = .ok (.ireturn, 1) := by decide +kernel
theorem dX10_areThings_0 : decode cX10_areThings 0 = .ok (.iload_n 1, 1) := by decide +kernel
theorem dX10_areThings_1 : decode cX10_areThings 1 = .ok (.ifCond .lt 19, 3) := by decide +kernel
theorem dX10_areThings_4 : decode cX10_areThings 4 = .ok (.iload_n 1, 1) := by decide +kernel
theorem dX10_areThings_5 : decode cX10_areThings 5 = .ok (.aload_n 0, 1) := by decide +kernel
theorem dX10_areThings_6 : decode cX10_areThings 6 = .ok (.getfield 10, 3) := by decide +kernel
theorem dX10_areThings_9 : decode cX10_areThings 9 = .ok (.getfield 94, 3) := by decide +kernel
theorem dX10_areThings_12 : decode cX10_areThings 12 = .ok (.ishr, 1) := by decide +kernel
theorem dX10_areThings_13 : decode cX10_areThings 13 = .ok (.ifCond .ne 7, 3) := by decide +kernel
theorem dX10_areThings_16 : decode cX10_areThings 16 = .ok (.iconst 1, 1) := by decide +kernel
theorem dX10_areThings_17 : decode cX10_areThings 17 = .ok (.goto 4, 3) := by decide +kernel
theorem dX10_areThings_20 : decode cX10_areThings 20 = .ok (.iconst 0, 1) := by decide +kernel
theorem dX10_areThings_21 : decode cX10_areThings 21 = .ok (.ireturn, 1) := by decide +kernel
theorem dX10_isThingAndMemory_0 : decode cX10_isThingAndMemory 0 = .ok (.iload_n 1, 1) := by decide +kernel
theorem dX10_isThingAndMemory_1 : decode cX10_isThingAndMemory 1 = .ok (.ifCond .lt 29, 3) := by decide +kernel
theorem dX10_isThingAndMemory_4 : decode cX10_isThingAndMemory 4 = .ok (.aload_n 0, 1) := by decide +kernel
theorem dX10_isThingAndMemory_5 : decode cX10_isThingAndMemory 5 = .ok (.iload_n 1, 1) := by decide +kernel
theorem dX10_isThingAndMemory_6 : decode cX10_isThingAndMemory 6 = .ok (.bipush 10, 2) := by decide +kernel
theorem dX10_isThingAndMemory_8 : decode cX10_isThingAndMemory 8 = .ok (.idiv, 1) := by decide +kernel
theorem dX10_isThingAndMemory_9 : decode cX10_isThingAndMemory 9 = .ok (.invokevirtual 137, 3) := by decide +kernel
theorem dX10_isThingAndMemory_12 : decode cX10_isThingAndMemory 12 = .ok (.ifCond .eq 18, 3) := by decide +kernel
theorem dX10_isThingAndMemory_15 : decode cX10_isThingAndMemory 15 = .ok (.iload_n 1, 1) := by decide +kernel
theorem dX10_isThingAndMemory_16 : decode cX10_isThingAndMemory 16 = .ok (.bipush 10, 2) := by decide +kernel
theorem dX10_isThingAndMemory_18 : decode cX10_isThingAndMemory 18 = .ok (.irem, 1) := by decide +kernel
theorem dX10_isThingAndMemory_19 : decode cX10_isThingAndMemory 19 = .ok (.iload_n 2, 1) := by decide +kernel
theorem dX10_isThingAndMemory_20 : decode cX10_isThingAndMemory 20 = .ok (.invokestatic 90, 3) := by decide +kernel
theorem dX10_isThingAndMemory_23 : decode cX10_isThingAndMemory 23 = .ok (.ifCond .eq 7, 3) := by decide +kernel
theorem dX10_isThingAndMemory_26 : decode cX10_isThingAndMemory 26 = .ok (.iconst 1, 1) := by decide +kernel
theorem dX10_isThingAndMemory_27 : decode cX10_isThingAndMemory 27 = .ok (.goto 4, 3) := by decide +kernel
theorem dX10_isThingAndMemory_30 : decode cX10_isThingAndMemory 30 = .ok (.iconst 0, 1) := by decide +kernel
theorem dX10_isThingAndMemory_31 : decode cX10_isThingAndMemory 31 = .ok (.ireturn, 1) := by decide +kernel
theorem dX10_isDoubt_0 : decode cX10_isDoubt 0 = .ok (.iload_n 1, 1) := by decide +kernel
theorem dX10_isDoubt_1 : decode cX10_isDoubt 1 = .ok (.bipush 63, 2) := by decide +kernel
theorem dX10_isDoubt_3 : decode cX10_isDoubt 3 = .ok (.iand, 1) := by decide +kernel
theorem dX10_isDoubt_4 : decode cX10_isDoubt 4 = .ok (.istore_n 2, 1) := by decide +kernel
theorem dX10_isDoubt_5 : decode cX10_isDoubt 5 = .ok (.iload_n 1, 1) := by decide +kernel
theorem dX10_isDoubt_6 : decode cX10_isDoubt 6 = .ok (.ifCond .lt 34, 3) := by decide +kernel
theorem dX10_isDoubt_9 : decode cX10_isDoubt 9 = .ok (.iload_n 1, 1) := by decide +kernel
theorem dX10_isDoubt_10 : decode cX10_isDoubt 10 = .ok (.bipush 6, 2) := by decide +kernel
theorem dX10_isDoubt_12 : decode cX10_isDoubt 12 = .ok (.ishr, 1) := by decide +kernel
theorem dX10_isDoubt_13 : decode cX10_isDoubt 13 = .ok (.iload_n 2, 1) := by decide +kernel
theorem dX10_isDoubt_14 : decode cX10_isDoubt 14 = .ok (.iconst (-1), 1) := by decide +kernel
theorem dX10_isDoubt_15 : decode cX10_isDoubt 15 = .ok (.ixor, 1) := by decide +kernel
theorem dX10_isDoubt_16 : decode cX10_isDoubt 16 = .ok (.iand, 1) := by decide +kernel
theorem dX10_isDoubt_17 : decode cX10_isDoubt 17 = .ok (.ifCond .ne 23, 3) := by decide +kernel
theorem dX10_isDoubt_20 : decode cX10_isDoubt 20 = .ok (.aload_n 0, 1) := by decide +kernel
theorem dX10_isDoubt_21 : decode cX10_isDoubt 21 = .ok (.iload_n 2, 1) := by decide +kernel
theorem dX10_isDoubt_22 : decode cX10_isDoubt 22 = .ok (.invokevirtual 239, 3) := by decide +kernel
theorem dX10_isDoubt_25 : decode cX10_isDoubt 25 = .ok (.ifCond .eq 15, 3) := by decide +kernel
theorem dX10_isDoubt_28 : decode cX10_isDoubt 28 = .ok (.iload_n 2, 1) := by decide +kernel
theorem dX10_isDoubt_29 : decode cX10_isDoubt 29 = .ok (.invokestatic 220, 3) := by decide +kernel
theorem dX10_isDoubt_32 : decode cX10_isDoubt 32 = .ok (.iconst 4, 1) := by decide +kernel
theorem dX10_isDoubt_33 : decode cX10_isDoubt 33 = .ok (.if_icmp .gt 7, 3) := by decide +kernel
theorem dX10_isDoubt_36 : decode cX10_isDoubt 36 = .ok (.iconst 1, 1) := by decide +kernel
theorem dX10_isDoubt_37 : decode cX10_isDoubt 37 = .ok (.goto 4, 3) := by decide +kernel
theorem dX10_isDoubt_40 : decode cX10_isDoubt 40 = .ok (.iconst 0, 1) := by decide +kernel
theorem dX10_isDoubt_41 : decode cX10_isDoubt 41 = .ok (.ireturn, 1) := by decide +kernel
theorem dX10_comesFrom_0 : decode cX10_comesFrom 0 = .ok (.aload_n 0, 1) := by decide +kernel
theorem dX10_comesFrom_1 : decode cX10_comesFrom 1 = .ok (.getfield 10, 3) := by decide +kernel
theorem dX10_comesFrom_4 : decode cX10_comesFrom 4 = .ok (.getfield 94, 3) := by decide +kernel
theorem dX10_comesFrom_7 : decode cX10_comesFrom 7 = .ok (.bipush 6, 2) := by decide +kernel
theorem dX10_comesFrom_9 : decode cX10_comesFrom 9 = .ok (.if_icmp .ge 23, 3) := by decide +kernel
theorem dX10_comesFrom_12 : decode cX10_comesFrom 12 = .ok (.lload_n 2, 1) := by decide +kernel
theorem dX10_comesFrom_13 : decode cX10_comesFrom 13 = .ok (.lconst 0, 1) := by decide +kernel
theorem dX10_comesFrom_14 : decode cX10_comesFrom 14 = .ok (.lcmp, 1) := by decide +kernel
theorem dX10_comesFrom_15 : decode cX10_comesFrom 15 = .ok (.ifCond .lt 17, 3) := by decide +kernel
theorem dX10_comesFrom_18 : decode cX10_comesFrom 18 = .ok (.lload_n 2, 1) := by decide +kernel
theorem dX10_comesFrom_19 : decode cX10_comesFrom 19 = .ok (.ldc2_w 429, 3) := by decide +kernel
theorem dX10_comesFrom_22 : decode cX10_comesFrom 22 = .ok (.ladd, 1) := by decide +kernel
theorem dX10_comesFrom_23 : decode cX10_comesFrom 23 = .ok (.aload_n 1, 1) := by decide +kernel
theorem dX10_comesFrom_24 : decode cX10_comesFrom 24 = .ok (.getfield 277, 3) := by decide +kernel
theorem dX10_comesFrom_27 : decode cX10_comesFrom 27 = .ok (.i2l, 1) := by decide +kernel
theorem dX10_comesFrom_28 : decode cX10_comesFrom 28 = .ok (.lcmp, 1) := by decide +kernel
theorem dX10_comesFrom_29 : decode cX10_comesFrom 29 = .ok (.ifCond .lt 5, 3) := by decide +kernel
theorem dX10_comesFrom_32 : decode cX10_comesFrom 32 = .ok (.iconst 0, 1) := by decide +kernel
theorem dX10_comesFrom_33 : decode cX10_comesFrom 33 = .ok (.ireturn, 1) := by decide +kernel
theorem dX10_comesFrom_34 : decode cX10_comesFrom 34 = .ok (.aload_n 1, 1) := by decide +kernel
theorem dX10_comesFrom_35 : decode cX10_comesFrom 35 = .ok (.lload_n 2, 1) := by decide +kernel
theorem dX10_comesFrom_36 : decode cX10_comesFrom 36 = .ok (.l2i, 1) := by decide +kernel
theorem dX10_comesFrom_37 : decode cX10_comesFrom 37 = .ok (.invokevirtual 286, 3) := by decide +kernel
theorem dX10_comesFrom_40 : decode cX10_comesFrom 40 = .ok (.l2i, 1) := by decide +kernel
theorem dX10_comesFrom_41 : decode cX10_comesFrom 41 = .ok (.istore 4, 2) := by decide +kernel
theorem dX10_comesFrom_43 : decode cX10_comesFrom 43 = .ok (.aload_n 1, 1) := by decide +kernel
theorem dX10_comesFrom_44 : decode cX10_comesFrom 44 = .ok (.lload_n 2, 1) := by decide +kernel
theorem dX10_comesFrom_45 : decode cX10_comesFrom 45 = .ok (.l2i, 1) := by decide +kernel
theorem dX10_comesFrom_46 : decode cX10_comesFrom 46 = .ok (.iconst 1, 1) := by decide +kernel
theorem dX10_comesFrom_47 : decode cX10_comesFrom 47 = .ok (.iadd, 1) := by decide +kernel
theorem dX10_comesFrom_48 : decode cX10_comesFrom 48 = .ok (.invokevirtual 286, 3) := by decide +kernel
theorem dX10_comesFrom_51 : decode cX10_comesFrom 51 = .ok (.l2i, 1) := by decide +kernel
theorem dX10_comesFrom_52 : decode cX10_comesFrom 52 = .ok (.istore 5, 2) := by decide +kernel
theorem dX10_comesFrom_54 : decode cX10_comesFrom 54 = .ok (.aload_n 1, 1) := by decide +kernel
theorem dX10_comesFrom_55 : decode cX10_comesFrom 55 = .ok (.lload_n 2, 1) := by decide +kernel
theorem dX10_comesFrom_56 : decode cX10_comesFrom 56 = .ok (.l2i, 1) := by decide +kernel
theorem dX10_comesFrom_57 : decode cX10_comesFrom 57 = .ok (.iconst 2, 1) := by decide +kernel
theorem dX10_comesFrom_58 : decode cX10_comesFrom 58 = .ok (.iadd, 1) := by decide +kernel
theorem dX10_comesFrom_59 : decode cX10_comesFrom 59 = .ok (.invokevirtual 286, 3) := by decide +kernel
theorem dX10_comesFrom_62 : decode cX10_comesFrom 62 = .ok (.l2i, 1) := by decide +kernel
theorem dX10_comesFrom_63 : decode cX10_comesFrom 63 = .ok (.istore 6, 2) := by decide +kernel
theorem dX10_comesFrom_65 : decode cX10_comesFrom 65 = .ok (.iload 4, 2) := by decide +kernel
theorem dX10_comesFrom_67 : decode cX10_comesFrom 67 = .ok (.bipush 127, 2) := by decide +kernel
theorem dX10_comesFrom_69 : decode cX10_comesFrom 69 = .ok (.invokestatic 90, 3) := by decide +kernel
theorem dX10_comesFrom_72 : decode cX10_comesFrom 72 = .ok (.ifCond .eq 23, 3) := by decide +kernel
theorem dX10_comesFrom_75 : decode cX10_comesFrom 75 = .ok (.iload 5, 2) := by decide +kernel
theorem dX10_comesFrom_77 : decode cX10_comesFrom 77 = .ok (.bipush 12, 2) := by decide +kernel
theorem dX10_comesFrom_79 : decode cX10_comesFrom 79 = .ok (.invokestatic 90, 3) := by decide +kernel
theorem dX10_comesFrom_82 : decode cX10_comesFrom 82 = .ok (.ifCond .eq 13, 3) := by decide +kernel
theorem dX10_comesFrom_85 : decode cX10_comesFrom 85 = .ok (.iload 6, 2) := by decide +kernel
theorem dX10_comesFrom_87 : decode cX10_comesFrom 87 = .ok (.bipush 12, 2) := by decide +kernel
theorem dX10_comesFrom_89 : decode cX10_comesFrom 89 = .ok (.invokestatic 90, 3) := by decide +kernel
theorem dX10_comesFrom_92 : decode cX10_comesFrom 92 = .ok (.ifCond .ne 5, 3) := by decide +kernel
theorem dX10_comesFrom_95 : decode cX10_comesFrom 95 = .ok (.iconst 0, 1) := by decide +kernel
theorem dX10_comesFrom_96 : decode cX10_comesFrom 96 = .ok (.ireturn, 1) := by decide +kernel
theorem dX10_comesFrom_97 : decode cX10_comesFrom 97 = .ok (.aload_n 0, 1) := by decide +kernel
theorem dX10_comesFrom_98 : decode cX10_comesFrom 98 = .ok (.getfield 10, 3) := by decide +kernel
theorem dX10_comesFrom_101 : decode cX10_comesFrom 101 = .ok (.iload 4, 2) := by decide +kernel
theorem dX10_comesFrom_103 : decode cX10_comesFrom 103 = .ok (.iload 5, 2) := by decide +kernel
theorem dX10_comesFrom_105 : decode cX10_comesFrom 105 = .ok (.iload 6, 2) := by decide +kernel
theorem dX10_comesFrom_107 : decode cX10_comesFrom 107 = .ok (.bipush 100, 2) := by decide +kernel
theorem dX10_comesFrom_109 : decode cX10_comesFrom 109 = .ok (.invokevirtual 98, 3) := by decide +kernel
theorem dX10_comesFrom_112 : decode cX10_comesFrom 112 = .ok (.pop, 1) := by decide +kernel
theorem dX10_comesFrom_113 : decode cX10_comesFrom 113 = .ok (.iconst 1, 1) := by decide +kernel
theorem dX10_comesFrom_114 : decode cX10_comesFrom 114 = .ok (.ireturn, 1) := by decide +kernel
theorem dX10_isMarked_0 : decode cX10_isMarked 0 = .ok (.aload_n 0, 1) := by decide +kernel
theorem dX10_isMarked_1 : decode cX10_isMarked 1 = .ok (.getfield 10, 3) := by decide +kernel
theorem dX10_isMarked_4 : decode cX10_isMarked 4 = .ok (.iconst 4, 1) := by decide +kernel
theorem dX10_isMarked_5 : decode cX10_isMarked 5 = .ok (.iload_n 1, 1) := by decide +kernel
theorem dX10_isMarked_6 : decode cX10_isMarked 6 = .ok (.invokevirtual 178, 3) := by decide +kernel
theorem dX10_isMarked_9 : decode cX10_isMarked 9 = .ok (.iconst 1, 1) := by decide +kernel
theorem dX10_isMarked_10 : decode cX10_isMarked 10 = .ok (.if_icmp .ne 7, 3) := by decide +kernel
theorem dX10_isMarked_13 : decode cX10_isMarked 13 = .ok (.iconst 1, 1) := by decide +kernel
theorem dX10_isMarked_14 : decode cX10_isMarked 14 = .ok (.goto 4, 3) := by decide +kernel
theorem dX10_isMarked_17 : decode cX10_isMarked 17 = .ok (.iconst 0, 1) := by decide +kernel
theorem dX10_isMarked_18 : decode cX10_isMarked 18 = .ok (.ireturn, 1) := by decide +kernel
theorem dX10_countMarked_0 : decode cX10_countMarked 0 = .ok (.iconst 0, 1) := by decide +kernel
theorem dX10_countMarked_1 : decode cX10_countMarked 1 = .ok (.istore_n 1, 1) := by decide +kernel
theorem dX10_countMarked_2 : decode cX10_countMarked 2 = .ok (.iconst 0, 1) := by decide +kernel
theorem dX10_countMarked_3 : decode cX10_countMarked 3 = .ok (.istore_n 2, 1) := by decide +kernel
theorem dX10_countMarked_4 : decode cX10_countMarked 4 = .ok (.iload_n 2, 1) := by decide +kernel
theorem dX10_countMarked_5 : decode cX10_countMarked 5 = .ok (.aload_n 0, 1) := by decide +kernel
theorem dX10_countMarked_6 : decode cX10_countMarked 6 = .ok (.getfield 10, 3) := by decide +kernel
theorem dX10_countMarked_9 : decode cX10_countMarked 9 = .ok (.getfield 94, 3) := by decide +kernel
theorem dX10_countMarked_12 : decode cX10_countMarked 12 = .ok (.if_icmp .ge 21, 3) := by decide +kernel
theorem dX10_countMarked_15 : decode cX10_countMarked 15 = .ok (.iload_n 1, 1) := by decide +kernel
theorem dX10_countMarked_16 : decode cX10_countMarked 16 = .ok (.aload_n 0, 1) := by decide +kernel
theorem dX10_countMarked_17 : decode cX10_countMarked 17 = .ok (.getfield 10, 3) := by decide +kernel
theorem dX10_countMarked_20 : decode cX10_countMarked 20 = .ok (.iconst 4, 1) := by decide +kernel
theorem dX10_countMarked_21 : decode cX10_countMarked 21 = .ok (.iload_n 2, 1) := by decide +kernel
theorem dX10_countMarked_22 : decode cX10_countMarked 22 = .ok (.invokevirtual 178, 3) := by decide +kernel
theorem dX10_countMarked_25 : decode cX10_countMarked 25 = .ok (.iadd, 1) := by decide +kernel
theorem dX10_countMarked_26 : decode cX10_countMarked 26 = .ok (.istore_n 1, 1) := by decide +kernel
theorem dX10_countMarked_27 : decode cX10_countMarked 27 = .ok (.iinc 2 1, 3) := by decide +kernel
theorem dX10_countMarked_30 : decode cX10_countMarked 30 = .ok (.goto (-26), 3) := by decide +kernel
theorem dX10_countMarked_33 : decode cX10_countMarked 33 = .ok (.iload_n 1, 1) := by decide +kernel
theorem dX10_countMarked_34 : decode cX10_countMarked 34 = .ok (.ireturn, 1) := by decide +kernel
theorem dX10_traceOf_0 : decode cX10_traceOf 0 = .ok (.aload_n 0, 1) := by decide +kernel
theorem dX10_traceOf_1 : decode cX10_traceOf 1 = .ok (.iload_n 1, 1) := by decide +kernel
theorem dX10_traceOf_2 : decode cX10_traceOf 2 = .ok (.invokevirtual 341, 3) := by decide +kernel
theorem dX10_traceOf_5 : decode cX10_traceOf 5 = .ok (.ifCond .eq 8, 3) := by decide +kernel
theorem dX10_traceOf_8 : decode cX10_traceOf 8 = .ok (.bipush 12, 2) := by decide +kernel
theorem dX10_traceOf_10 : decode cX10_traceOf 10 = .ok (.goto 12, 3) := by decide +kernel
theorem dX10_traceOf_13 : decode cX10_traceOf 13 = .ok (.aload_n 0, 1) := by decide +kernel
theorem dX10_traceOf_14 : decode cX10_traceOf 14 = .ok (.getfield 10, 3) := by decide +kernel
theorem dX10_traceOf_17 : decode cX10_traceOf 17 = .ok (.iconst 1, 1) := by decide +kernel
theorem dX10_traceOf_18 : decode cX10_traceOf 18 = .ok (.iload_n 1, 1) := by decide +kernel
theorem dX10_traceOf_19 : decode cX10_traceOf 19 = .ok (.invokevirtual 178, 3) := by decide +kernel
theorem dX10_traceOf_22 : decode cX10_traceOf 22 = .ok (.ireturn, 1) := by decide +kernel
theorem dX10_staleOf_0 : decode cX10_staleOf 0 = .ok (.aload_n 0, 1) := by decide +kernel
theorem dX10_staleOf_1 : decode cX10_staleOf 1 = .ok (.iload_n 1, 1) := by decide +kernel
theorem dX10_staleOf_2 : decode cX10_staleOf 2 = .ok (.invokevirtual 341, 3) := by decide +kernel
theorem dX10_staleOf_5 : decode cX10_staleOf 5 = .ok (.ifCond .eq 23, 3) := by decide +kernel
theorem dX10_staleOf_8 : decode cX10_staleOf 8 = .ok (.aload_n 0, 1) := by decide +kernel
theorem dX10_staleOf_9 : decode cX10_staleOf 9 = .ok (.iload_n 1, 1) := by decide +kernel
theorem dX10_staleOf_10 : decode cX10_staleOf 10 = .ok (.invokevirtual 137, 3) := by decide +kernel
theorem dX10_staleOf_13 : decode cX10_staleOf 13 = .ok (.ifCond .eq 15, 3) := by decide +kernel
theorem dX10_staleOf_16 : decode cX10_staleOf 16 = .ok (.aload_n 0, 1) := by decide +kernel
theorem dX10_staleOf_17 : decode cX10_staleOf 17 = .ok (.getfield 26, 3) := by decide +kernel
theorem dX10_staleOf_20 : decode cX10_staleOf 20 = .ok (.getfield 140, 3) := by decide +kernel
theorem dX10_staleOf_23 : decode cX10_staleOf 23 = .ok (.iload_n 1, 1) := by decide +kernel
theorem dX10_staleOf_24 : decode cX10_staleOf 24 = .ok (.iaload, 1) := by decide +kernel
theorem dX10_staleOf_25 : decode cX10_staleOf 25 = .ok (.goto 12, 3) := by decide +kernel
theorem dX10_staleOf_28 : decode cX10_staleOf 28 = .ok (.aload_n 0, 1) := by decide +kernel
theorem dX10_staleOf_29 : decode cX10_staleOf 29 = .ok (.getfield 10, 3) := by decide +kernel
theorem dX10_staleOf_32 : decode cX10_staleOf 32 = .ok (.iconst 2, 1) := by decide +kernel
theorem dX10_staleOf_33 : decode cX10_staleOf 33 = .ok (.iload_n 1, 1) := by decide +kernel
theorem dX10_staleOf_34 : decode cX10_staleOf 34 = .ok (.invokevirtual 178, 3) := by decide +kernel
theorem dX10_staleOf_37 : decode cX10_staleOf 37 = .ok (.ireturn, 1) := by decide +kernel
theorem dX10_findOpen_0 : decode cX10_findOpen 0 = .ok (.aload_n 0, 1) := by decide +kernel
theorem dX10_findOpen_1 : decode cX10_findOpen 1 = .ok (.getfield 10, 3) := by decide +kernel
theorem dX10_findOpen_4 : decode cX10_findOpen 4 = .ok (.iconst 0, 1) := by decide +kernel
theorem dX10_findOpen_5 : decode cX10_findOpen 5 = .ok (.iload_n 1, 1) := by decide +kernel
theorem dX10_findOpen_6 : decode cX10_findOpen 6 = .ok (.invokevirtual 178, 3) := by decide +kernel
theorem dX10_findOpen_9 : decode cX10_findOpen 9 = .ok (.i2l, 1) := by decide +kernel
theorem dX10_findOpen_10 : decode cX10_findOpen 10 = .ok (.lstore 4, 2) := by decide +kernel
theorem dX10_findOpen_12 : decode cX10_findOpen 12 = .ok (.iload_n 2, 1) := by decide +kernel
theorem dX10_findOpen_13 : decode cX10_findOpen 13 = .ok (.iconst 2, 1) := by decide +kernel
theorem dX10_findOpen_14 : decode cX10_findOpen 14 = .ok (.if_icmp .ne 13, 3) := by decide +kernel
theorem dX10_findOpen_17 : decode cX10_findOpen 17 = .ok (.aload_n 3, 1) := by decide +kernel
theorem dX10_findOpen_18 : decode cX10_findOpen 18 = .ok (.lload 4, 2) := by decide +kernel
theorem dX10_findOpen_20 : decode cX10_findOpen 20 = .ok (.ldc2_w 259, 3) := by decide +kernel
theorem dX10_findOpen_23 : decode cX10_findOpen 23 = .ok (.invokevirtual 191, 3) := by decide +kernel
theorem dX10_findOpen_26 : decode cX10_findOpen 26 = .ok (.ireturn, 1) := by decide +kernel
theorem dX10_findOpen_27 : decode cX10_findOpen 27 = .ok (.iload_n 2, 1) := by decide +kernel
theorem dX10_findOpen_28 : decode cX10_findOpen 28 = .ok (.iconst 1, 1) := by decide +kernel
theorem dX10_findOpen_29 : decode cX10_findOpen 29 = .ok (.if_icmp .ne 12, 3) := by decide +kernel
theorem dX10_findOpen_32 : decode cX10_findOpen 32 = .ok (.aload_n 0, 1) := by decide +kernel
theorem dX10_findOpen_33 : decode cX10_findOpen 33 = .ok (.iload_n 1, 1) := by decide +kernel
theorem dX10_findOpen_34 : decode cX10_findOpen 34 = .ok (.invokevirtual 309, 3) := by decide +kernel
theorem dX10_findOpen_37 : decode cX10_findOpen 37 = .ok (.i2l, 1) := by decide +kernel
theorem dX10_findOpen_38 : decode cX10_findOpen 38 = .ok (.goto 12, 3) := by decide +kernel
theorem dX10_findOpen_41 : decode cX10_findOpen 41 = .ok (.bipush 12, 2) := by decide +kernel
theorem dX10_findOpen_43 : decode cX10_findOpen 43 = .ok (.aload_n 0, 1) := by decide +kernel
theorem dX10_findOpen_44 : decode cX10_findOpen 44 = .ok (.iload_n 1, 1) := by decide +kernel
theorem dX10_findOpen_45 : decode cX10_findOpen 45 = .ok (.invokevirtual 309, 3) := by decide +kernel
theorem dX10_findOpen_48 : decode cX10_findOpen 48 = .ok (.isub, 1) := by decide +kernel
theorem dX10_findOpen_49 : decode cX10_findOpen 49 = .ok (.i2l, 1) := by decide +kernel
theorem dX10_findOpen_50 : decode cX10_findOpen 50 = .ok (.lstore 6, 2) := by decide +kernel
theorem dX10_findOpen_52 : decode cX10_findOpen 52 = .ok (.iload_n 2, 1) := by decide +kernel
theorem dX10_findOpen_53 : decode cX10_findOpen 53 = .ok (.iconst 1, 1) := by decide +kernel
theorem dX10_findOpen_54 : decode cX10_findOpen 54 = .ok (.if_icmp .ne 12, 3) := by decide +kernel
theorem dX10_findOpen_57 : decode cX10_findOpen 57 = .ok (.aload_n 0, 1) := by decide +kernel
theorem dX10_findOpen_58 : decode cX10_findOpen 58 = .ok (.iload_n 1, 1) := by decide +kernel
theorem dX10_findOpen_59 : decode cX10_findOpen 59 = .ok (.invokevirtual 312, 3) := by decide +kernel
theorem dX10_findOpen_62 : decode cX10_findOpen 62 = .ok (.i2l, 1) := by decide +kernel
theorem dX10_findOpen_63 : decode cX10_findOpen 63 = .ok (.goto 12, 3) := by decide +kernel
theorem dX10_findOpen_66 : decode cX10_findOpen 66 = .ok (.bipush 12, 2) := by decide +kernel
theorem dX10_findOpen_68 : decode cX10_findOpen 68 = .ok (.aload_n 0, 1) := by decide +kernel
theorem dX10_findOpen_69 : decode cX10_findOpen 69 = .ok (.iload_n 1, 1) := by decide +kernel
theorem dX10_findOpen_70 : decode cX10_findOpen 70 = .ok (.invokevirtual 312, 3) := by decide +kernel
theorem dX10_findOpen_73 : decode cX10_findOpen 73 = .ok (.isub, 1) := by decide +kernel
theorem dX10_findOpen_74 : decode cX10_findOpen 74 = .ok (.i2l, 1) := by decide +kernel
theorem dX10_findOpen_75 : decode cX10_findOpen 75 = .ok (.lstore 8, 2) := by decide +kernel
theorem dX10_findOpen_77 : decode cX10_findOpen 77 = .ok (.aload_n 3, 1) := by decide +kernel
theorem dX10_findOpen_78 : decode cX10_findOpen 78 = .ok (.lload 4, 2) := by decide +kernel
theorem dX10_findOpen_80 : decode cX10_findOpen 80 = .ok (.lload 8, 2) := by decide +kernel
theorem dX10_findOpen_82 : decode cX10_findOpen 82 = .ok (.lmul, 1) := by decide +kernel
theorem dX10_findOpen_83 : decode cX10_findOpen 83 = .ok (.lload 4, 2) := by decide +kernel
theorem dX10_findOpen_85 : decode cX10_findOpen 85 = .ok (.lload 8, 2) := by decide +kernel
theorem dX10_findOpen_87 : decode cX10_findOpen 87 = .ok (.lmul, 1) := by decide +kernel
theorem dX10_findOpen_88 : decode cX10_findOpen 88 = .ok (.ldc2_w 259, 3) := by decide +kernel
theorem dX10_findOpen_91 : decode cX10_findOpen 91 = .ok (.lload 4, 2) := by decide +kernel
theorem dX10_findOpen_93 : decode cX10_findOpen 93 = .ok (.lsub, 1) := by decide +kernel
theorem dX10_findOpen_94 : decode cX10_findOpen 94 = .ok (.lload 6, 2) := by decide +kernel
theorem dX10_findOpen_96 : decode cX10_findOpen 96 = .ok (.lmul, 1) := by decide +kernel
theorem dX10_findOpen_97 : decode cX10_findOpen 97 = .ok (.ladd, 1) := by decide +kernel
theorem dX10_findOpen_98 : decode cX10_findOpen 98 = .ok (.invokevirtual 191, 3) := by decide +kernel
theorem dX10_findOpen_101 : decode cX10_findOpen 101 = .ok (.ireturn, 1) := by decide +kernel
theorem dX10_findDoubts_0 : decode cX10_findDoubts 0 = .ok (.aload_n 0, 1) := by decide +kernel
theorem dX10_findDoubts_1 : decode cX10_findDoubts 1 = .ok (.getfield 54, 3) := by decide +kernel
theorem dX10_findDoubts_4 : decode cX10_findDoubts 4 = .ok (.iload_n 1, 1) := by decide +kernel
theorem dX10_findDoubts_5 : decode cX10_findDoubts 5 = .ok (.bipush 63, 2) := by decide +kernel
theorem dX10_findDoubts_7 : decode cX10_findDoubts 7 = .ok (.iand, 1) := by decide +kernel
theorem dX10_findDoubts_8 : decode cX10_findDoubts 8 = .ok (.putfield 217, 3) := by decide +kernel
theorem dX10_findDoubts_11 : decode cX10_findDoubts 11 = .ok (.iconst 1, 1) := by decide +kernel
theorem dX10_findDoubts_12 : decode cX10_findDoubts 12 = .ok (.istore_n 2, 1) := by decide +kernel
theorem dX10_findDoubts_13 : decode cX10_findDoubts 13 = .ok (.iconst 0, 1) := by decide +kernel
theorem dX10_findDoubts_14 : decode cX10_findDoubts 14 = .ok (.istore_n 3, 1) := by decide +kernel
theorem dX10_findDoubts_15 : decode cX10_findDoubts 15 = .ok (.iload_n 3, 1) := by decide +kernel
theorem dX10_findDoubts_16 : decode cX10_findDoubts 16 = .ok (.bipush 6, 2) := by decide +kernel
theorem dX10_findDoubts_18 : decode cX10_findDoubts 18 = .ok (.if_icmp .ge 73, 3) := by decide +kernel
theorem dX10_findDoubts_21 : decode cX10_findDoubts 21 = .ok (.aload_n 0, 1) := by decide +kernel
theorem dX10_findDoubts_22 : decode cX10_findDoubts 22 = .ok (.getfield 54, 3) := by decide +kernel
theorem dX10_findDoubts_25 : decode cX10_findDoubts 25 = .ok (.iload_n 3, 1) := by decide +kernel
theorem dX10_findDoubts_26 : decode cX10_findDoubts 26 = .ok (.invokevirtual 431, 3) := by decide +kernel
theorem dX10_findDoubts_29 : decode cX10_findDoubts 29 = .ok (.ifCond .eq 56, 3) := by decide +kernel
theorem dX10_findDoubts_32 : decode cX10_findDoubts 32 = .ok (.aload_n 0, 1) := by decide +kernel
theorem dX10_findDoubts_33 : decode cX10_findDoubts 33 = .ok (.iload_n 3, 1) := by decide +kernel
theorem dX10_findDoubts_34 : decode cX10_findDoubts 34 = .ok (.iload_n 1, 1) := by decide +kernel
theorem dX10_findDoubts_35 : decode cX10_findDoubts 35 = .ok (.bipush 6, 2) := by decide +kernel
theorem dX10_findDoubts_37 : decode cX10_findDoubts 37 = .ok (.ishr, 1) := by decide +kernel
theorem dX10_findDoubts_38 : decode cX10_findDoubts 38 = .ok (.iload_n 3, 1) := by decide +kernel
theorem dX10_findDoubts_39 : decode cX10_findDoubts 39 = .ok (.ishr, 1) := by decide +kernel
theorem dX10_findDoubts_40 : decode cX10_findDoubts 40 = .ok (.iconst 1, 1) := by decide +kernel
theorem dX10_findDoubts_41 : decode cX10_findDoubts 41 = .ok (.iand, 1) := by decide +kernel
theorem dX10_findDoubts_42 : decode cX10_findDoubts 42 = .ok (.aload_n 0, 1) := by decide +kernel
theorem dX10_findDoubts_43 : decode cX10_findDoubts 43 = .ok (.getfield 54, 3) := by decide +kernel
theorem dX10_findDoubts_46 : decode cX10_findDoubts 46 = .ok (.getfield 225, 3) := by decide +kernel
theorem dX10_findDoubts_49 : decode cX10_findDoubts 49 = .ok (.iload_n 3, 1) := by decide +kernel
theorem dX10_findDoubts_50 : decode cX10_findDoubts 50 = .ok (.aaload, 1) := by decide +kernel
theorem dX10_findDoubts_51 : decode cX10_findDoubts 51 = .ok (.invokevirtual 161, 3) := by decide +kernel
theorem dX10_findDoubts_54 : decode cX10_findDoubts 54 = .ok (.ifCond .eq 11, 3) := by decide +kernel
theorem dX10_findDoubts_57 : decode cX10_findDoubts 57 = .ok (.iload_n 2, 1) := by decide +kernel
theorem dX10_findDoubts_58 : decode cX10_findDoubts 58 = .ok (.ifCond .eq 7, 3) := by decide +kernel
theorem dX10_findDoubts_61 : decode cX10_findDoubts 61 = .ok (.iconst 1, 1) := by decide +kernel
theorem dX10_findDoubts_62 : decode cX10_findDoubts 62 = .ok (.goto 4, 3) := by decide +kernel
theorem dX10_findDoubts_65 : decode cX10_findDoubts 65 = .ok (.iconst 0, 1) := by decide +kernel
theorem dX10_findDoubts_66 : decode cX10_findDoubts 66 = .ok (.istore_n 2, 1) := by decide +kernel
theorem dX10_findDoubts_67 : decode cX10_findDoubts 67 = .ok (.aload_n 0, 1) := by decide +kernel
theorem dX10_findDoubts_68 : decode cX10_findDoubts 68 = .ok (.getfield 54, 3) := by decide +kernel
theorem dX10_findDoubts_71 : decode cX10_findDoubts 71 = .ok (.getfield 434, 3) := by decide +kernel
theorem dX10_findDoubts_74 : decode cX10_findDoubts 74 = .ok (.iload_n 3, 1) := by decide +kernel
theorem dX10_findDoubts_75 : decode cX10_findDoubts 75 = .ok (.aload_n 0, 1) := by decide +kernel
theorem dX10_findDoubts_76 : decode cX10_findDoubts 76 = .ok (.getfield 10, 3) := by decide +kernel
theorem dX10_findDoubts_79 : decode cX10_findDoubts 79 = .ok (.iconst 3, 1) := by decide +kernel
theorem dX10_findDoubts_80 : decode cX10_findDoubts 80 = .ok (.iload_n 3, 1) := by decide +kernel
theorem dX10_findDoubts_81 : decode cX10_findDoubts 81 = .ok (.invokevirtual 178, 3) := by decide +kernel
theorem dX10_findDoubts_84 : decode cX10_findDoubts 84 = .ok (.iastore, 1) := by decide +kernel
theorem dX10_findDoubts_85 : decode cX10_findDoubts 85 = .ok (.iinc 3 1, 3) := by decide +kernel
theorem dX10_findDoubts_88 : decode cX10_findDoubts 88 = .ok (.goto (-73), 3) := by decide +kernel
theorem dX10_findDoubts_91 : decode cX10_findDoubts 91 = .ok (.aload_n 0, 1) := by decide +kernel
theorem dX10_findDoubts_92 : decode cX10_findDoubts 92 = .ok (.getfield 54, 3) := by decide +kernel
theorem dX10_findDoubts_95 : decode cX10_findDoubts 95 = .ok (.invokevirtual 437, 3) := by decide +kernel
theorem dX10_findDoubts_98 : decode cX10_findDoubts 98 = .ok (.iload_n 2, 1) := by decide +kernel
theorem dX10_findDoubts_99 : decode cX10_findDoubts 99 = .ok (.ireturn, 1) := by decide +kernel
theorem dX10_wayBack_0 : decode cX10_wayBack 0 = .ok (.iconst 2, 1) := by decide +kernel
theorem dX10_wayBack_1 : decode cX10_wayBack 1 = .ok (.iload_n 1, 1) := by decide +kernel
theorem dX10_wayBack_2 : decode cX10_wayBack 2 = .ok (.imul, 1) := by decide +kernel
theorem dX10_wayBack_3 : decode cX10_wayBack 3 = .ok (.aload_n 0, 1) := by decide +kernel
theorem dX10_wayBack_4 : decode cX10_wayBack 4 = .ok (.getfield 10, 3) := by decide +kernel
theorem dX10_wayBack_7 : decode cX10_wayBack 7 = .ok (.invokevirtual 232, 3) := by decide +kernel
theorem dX10_wayBack_10 : decode cX10_wayBack 10 = .ok (.imul, 1) := by decide +kernel
theorem dX10_wayBack_11 : decode cX10_wayBack 11 = .ok (.ireturn, 1) := by decide +kernel
theorem dX10_paysBy_0 : decode cX10_paysBy 0 = .ok (.aload_n 0, 1) := by decide +kernel
theorem dX10_paysBy_1 : decode cX10_paysBy 1 = .ok (.iload_n 3, 1) := by decide +kernel
theorem dX10_paysBy_2 : decode cX10_paysBy 2 = .ok (.invokevirtual 185, 3) := by decide +kernel
theorem dX10_paysBy_5 : decode cX10_paysBy 5 = .ok (.i2l, 1) := by decide +kernel
theorem dX10_paysBy_6 : decode cX10_paysBy 6 = .ok (.aload_n 1, 1) := by decide +kernel
theorem dX10_paysBy_7 : decode cX10_paysBy 7 = .ok (.getfield 188, 3) := by decide +kernel
theorem dX10_paysBy_10 : decode cX10_paysBy 10 = .ok (.lmul, 1) := by decide +kernel
theorem dX10_paysBy_11 : decode cX10_paysBy 11 = .ok (.aload_n 1, 1) := by decide +kernel
theorem dX10_paysBy_12 : decode cX10_paysBy 12 = .ok (.getfield 181, 3) := by decide +kernel
theorem dX10_paysBy_15 : decode cX10_paysBy 15 = .ok (.aload_n 0, 1) := by decide +kernel
theorem dX10_paysBy_16 : decode cX10_paysBy 16 = .ok (.getfield 10, 3) := by decide +kernel
theorem dX10_paysBy_19 : decode cX10_paysBy 19 = .ok (.iconst 3, 1) := by decide +kernel
theorem dX10_paysBy_20 : decode cX10_paysBy 20 = .ok (.iload_n 2, 1) := by decide +kernel
theorem dX10_paysBy_21 : decode cX10_paysBy 21 = .ok (.invokevirtual 178, 3) := by decide +kernel
theorem dX10_paysBy_24 : decode cX10_paysBy 24 = .ok (.i2l, 1) := by decide +kernel
theorem dX10_paysBy_25 : decode cX10_paysBy 25 = .ok (.lmul, 1) := by decide +kernel
theorem dX10_paysBy_26 : decode cX10_paysBy 26 = .ok (.lcmp, 1) := by decide +kernel
theorem dX10_paysBy_27 : decode cX10_paysBy 27 = .ok (.ifCond .ge 7, 3) := by decide +kernel
theorem dX10_paysBy_30 : decode cX10_paysBy 30 = .ok (.iconst 1, 1) := by decide +kernel
theorem dX10_paysBy_31 : decode cX10_paysBy 31 = .ok (.goto 4, 3) := by decide +kernel
theorem dX10_paysBy_34 : decode cX10_paysBy 34 = .ok (.iconst 0, 1) := by decide +kernel
theorem dX10_paysBy_35 : decode cX10_paysBy 35 = .ok (.ireturn, 1) := by decide +kernel
theorem dX10_decides_0 : decode cX10_decides 0 = .ok (.iload_n 1, 1) := by decide +kernel
theorem dX10_decides_1 : decode cX10_decides 1 = .ok (.tableswitch 118 1 4 #[31, 33, 43, 66], 31) := by decide +kernel
theorem dX10_decides_32 : decode cX10_decides 32 = .ok (.iconst 1, 1) := by decide +kernel
theorem dX10_decides_33 : decode cX10_decides 33 = .ok (.ireturn, 1) := by decide +kernel
theorem dX10_decides_34 : decode cX10_decides 34 = .ok (.iload_n 3, 1) := by decide +kernel
theorem dX10_decides_35 : decode cX10_decides 35 = .ok (.ifCond .ne 7, 3) := by decide +kernel
theorem dX10_decides_38 : decode cX10_decides 38 = .ok (.iconst 1, 1) := by decide +kernel
theorem dX10_decides_39 : decode cX10_decides 39 = .ok (.goto 4, 3) := by decide +kernel
theorem dX10_decides_42 : decode cX10_decides 42 = .ok (.iconst 0, 1) := by decide +kernel
theorem dX10_decides_43 : decode cX10_decides 43 = .ok (.ireturn, 1) := by decide +kernel
theorem dX10_decides_44 : decode cX10_decides 44 = .ok (.aload_n 0, 1) := by decide +kernel
theorem dX10_decides_45 : decode cX10_decides 45 = .ok (.iload_n 2, 1) := by decide +kernel
theorem dX10_decides_46 : decode cX10_decides 46 = .ok (.iload_n 3, 1) := by decide +kernel
theorem dX10_decides_47 : decode cX10_decides 47 = .ok (.aload_n 0, 1) := by decide +kernel
theorem dX10_decides_48 : decode cX10_decides 48 = .ok (.getfield 47, 3) := by decide +kernel
theorem dX10_decides_51 : decode cX10_decides 51 = .ok (.invokevirtual 161, 3) := by decide +kernel
theorem dX10_decides_54 : decode cX10_decides 54 = .ok (.pop, 1) := by decide +kernel
theorem dX10_decides_55 : decode cX10_decides 55 = .ok (.aload_n 0, 1) := by decide +kernel
theorem dX10_decides_56 : decode cX10_decides 56 = .ok (.aload_n 0, 1) := by decide +kernel
theorem dX10_decides_57 : decode cX10_decides 57 = .ok (.getfield 47, 3) := by decide +kernel
theorem dX10_decides_60 : decode cX10_decides 60 = .ok (.iload_n 2, 1) := by decide +kernel
theorem dX10_decides_61 : decode cX10_decides 61 = .ok (.iload 4, 2) := by decide +kernel
theorem dX10_decides_63 : decode cX10_decides 63 = .ok (.invokevirtual 174, 3) := by decide +kernel
theorem dX10_decides_66 : decode cX10_decides 66 = .ok (.ireturn, 1) := by decide +kernel
theorem dX10_decides_67 : decode cX10_decides 67 = .ok (.aload_n 0, 1) := by decide +kernel
theorem dX10_decides_68 : decode cX10_decides 68 = .ok (.iload_n 2, 1) := by decide +kernel
theorem dX10_decides_69 : decode cX10_decides 69 = .ok (.iload_n 3, 1) := by decide +kernel
theorem dX10_decides_70 : decode cX10_decides 70 = .ok (.aload_n 0, 1) := by decide +kernel
theorem dX10_decides_71 : decode cX10_decides 71 = .ok (.getfield 47, 3) := by decide +kernel
theorem dX10_decides_74 : decode cX10_decides 74 = .ok (.invokevirtual 161, 3) := by decide +kernel
theorem dX10_decides_77 : decode cX10_decides 77 = .ok (.pop, 1) := by decide +kernel
theorem dX10_decides_78 : decode cX10_decides 78 = .ok (.aload_n 0, 1) := by decide +kernel
theorem dX10_decides_79 : decode cX10_decides 79 = .ok (.getfield 40, 3) := by decide +kernel
theorem dX10_decides_82 : decode cX10_decides 82 = .ok (.aload_n 0, 1) := by decide +kernel
theorem dX10_decides_83 : decode cX10_decides 83 = .ok (.getfield 47, 3) := by decide +kernel
theorem dX10_decides_86 : decode cX10_decides 86 = .ok (.invokevirtual 229, 3) := by decide +kernel
theorem dX10_decides_89 : decode cX10_decides 89 = .ok (.aload_n 0, 1) := by decide +kernel
theorem dX10_decides_90 : decode cX10_decides 90 = .ok (.getfield 10, 3) := by decide +kernel
theorem dX10_decides_93 : decode cX10_decides 93 = .ok (.iconst 3, 1) := by decide +kernel
theorem dX10_decides_94 : decode cX10_decides 94 = .ok (.iload_n 2, 1) := by decide +kernel
theorem dX10_decides_95 : decode cX10_decides 95 = .ok (.invokevirtual 178, 3) := by decide +kernel
theorem dX10_decides_98 : decode cX10_decides 98 = .ok (.iload 4, 2) := by decide +kernel
theorem dX10_decides_100 : decode cX10_decides 100 = .ok (.aload_n 0, 1) := by decide +kernel
theorem dX10_decides_101 : decode cX10_decides 101 = .ok (.getfield 10, 3) := by decide +kernel
theorem dX10_decides_104 : decode cX10_decides 104 = .ok (.invokevirtual 232, 3) := by decide +kernel
theorem dX10_decides_107 : decode cX10_decides 107 = .ok (.aload_n 0, 1) := by decide +kernel
theorem dX10_decides_108 : decode cX10_decides 108 = .ok (.getfield 26, 3) := by decide +kernel
theorem dX10_decides_111 : decode cX10_decides 111 = .ok (.getfield 143, 3) := by decide +kernel
theorem dX10_decides_114 : decode cX10_decides 114 = .ok (.iconst 1, 1) := by decide +kernel
theorem dX10_decides_115 : decode cX10_decides 115 = .ok (.invokevirtual 235, 3) := by decide +kernel
theorem dX10_decides_118 : decode cX10_decides 118 = .ok (.ireturn, 1) := by decide +kernel
theorem dX10_decides_119 : decode cX10_decides 119 = .ok (.iconst 0, 1) := by decide +kernel
theorem dX10_decides_120 : decode cX10_decides 120 = .ok (.ireturn, 1) := by decide +kernel
theorem dX10_costOf_0 : decode cX10_costOf 0 = .ok (.iload_n 3, 1) := by decide +kernel
theorem dX10_costOf_1 : decode cX10_costOf 1 = .ok (.ifCond .eq 9, 3) := by decide +kernel
theorem dX10_costOf_4 : decode cX10_costOf 4 = .ok (.aload_n 0, 1) := by decide +kernel
theorem dX10_costOf_5 : decode cX10_costOf 5 = .ok (.iload_n 2, 1) := by decide +kernel
theorem dX10_costOf_6 : decode cX10_costOf 6 = .ok (.invokevirtual 185, 3) := by decide +kernel
theorem dX10_costOf_9 : decode cX10_costOf 9 = .ok (.ireturn, 1) := by decide +kernel
theorem dX10_costOf_10 : decode cX10_costOf 10 = .ok (.iload 4, 2) := by decide +kernel
theorem dX10_costOf_12 : decode cX10_costOf 12 = .ok (.ifCond .eq 15, 3) := by decide +kernel
theorem dX10_costOf_15 : decode cX10_costOf 15 = .ok (.aload_n 0, 1) := by decide +kernel
theorem dX10_costOf_16 : decode cX10_costOf 16 = .ok (.getfield 10, 3) := by decide +kernel
theorem dX10_costOf_19 : decode cX10_costOf 19 = .ok (.iconst 3, 1) := by decide +kernel
theorem dX10_costOf_20 : decode cX10_costOf 20 = .ok (.iload_n 1, 1) := by decide +kernel
theorem dX10_costOf_21 : decode cX10_costOf 21 = .ok (.invokevirtual 178, 3) := by decide +kernel
theorem dX10_costOf_24 : decode cX10_costOf 24 = .ok (.goto 4, 3) := by decide +kernel
theorem dX10_costOf_27 : decode cX10_costOf 27 = .ok (.iconst 0, 1) := by decide +kernel
theorem dX10_costOf_28 : decode cX10_costOf 28 = .ok (.ireturn, 1) := by decide +kernel
theorem dX10_areRooms_0 : decode cX10_areRooms 0 = .ok (.iconst 0, 1) := by decide +kernel
theorem dX10_areRooms_1 : decode cX10_areRooms 1 = .ok (.istore_n 1, 1) := by decide +kernel
theorem dX10_areRooms_2 : decode cX10_areRooms 2 = .ok (.iload_n 1, 1) := by decide +kernel
theorem dX10_areRooms_3 : decode cX10_areRooms 3 = .ok (.aload_n 0, 1) := by decide +kernel
theorem dX10_areRooms_4 : decode cX10_areRooms 4 = .ok (.getfield 277, 3) := by decide +kernel
theorem dX10_areRooms_7 : decode cX10_areRooms 7 = .ok (.if_icmp .ge 33, 3) := by decide +kernel
theorem dX10_areRooms_10 : decode cX10_areRooms 10 = .ok (.aload_n 0, 1) := by decide +kernel
theorem dX10_areRooms_11 : decode cX10_areRooms 11 = .ok (.iload_n 1, 1) := by decide +kernel
theorem dX10_areRooms_12 : decode cX10_areRooms 12 = .ok (.invokevirtual 286, 3) := by decide +kernel
theorem dX10_areRooms_15 : decode cX10_areRooms 15 = .ok (.lconst 0, 1) := by decide +kernel
theorem dX10_areRooms_16 : decode cX10_areRooms 16 = .ok (.lcmp, 1) := by decide +kernel
theorem dX10_areRooms_17 : decode cX10_areRooms 17 = .ok (.ifCond .lt 15, 3) := by decide +kernel
theorem dX10_areRooms_20 : decode cX10_areRooms 20 = .ok (.aload_n 0, 1) := by decide +kernel
theorem dX10_areRooms_21 : decode cX10_areRooms 21 = .ok (.iload_n 1, 1) := by decide +kernel
theorem dX10_areRooms_22 : decode cX10_areRooms 22 = .ok (.invokevirtual 286, 3) := by decide +kernel
theorem dX10_areRooms_25 : decode cX10_areRooms 25 = .ok (.ldc2_w 440, 3) := by decide +kernel
theorem dX10_areRooms_28 : decode cX10_areRooms 28 = .ok (.lcmp, 1) := by decide +kernel
theorem dX10_areRooms_29 : decode cX10_areRooms 29 = .ok (.ifCond .lt 5, 3) := by decide +kernel
theorem dX10_areRooms_32 : decode cX10_areRooms 32 = .ok (.iconst 0, 1) := by decide +kernel
theorem dX10_areRooms_33 : decode cX10_areRooms 33 = .ok (.ireturn, 1) := by decide +kernel
theorem dX10_areRooms_34 : decode cX10_areRooms 34 = .ok (.iinc 1 1, 3) := by decide +kernel
theorem dX10_areRooms_37 : decode cX10_areRooms 37 = .ok (.goto (-35), 3) := by decide +kernel
theorem dX10_areRooms_40 : decode cX10_areRooms 40 = .ok (.iconst 1, 1) := by decide +kernel
theorem dX10_areRooms_41 : decode cX10_areRooms 41 = .ok (.ireturn, 1) := by decide +kernel
theorem dX10_roomsOf_0 : decode cX10_roomsOf 0 = .ok (.iconst 0, 1) := by decide +kernel
theorem dX10_roomsOf_1 : decode cX10_roomsOf 1 = .ok (.istore_n 1, 1) := by decide +kernel
theorem dX10_roomsOf_2 : decode cX10_roomsOf 2 = .ok (.iconst 0, 1) := by decide +kernel
theorem dX10_roomsOf_3 : decode cX10_roomsOf 3 = .ok (.istore_n 2, 1) := by decide +kernel
theorem dX10_roomsOf_4 : decode cX10_roomsOf 4 = .ok (.iload_n 2, 1) := by decide +kernel
theorem dX10_roomsOf_5 : decode cX10_roomsOf 5 = .ok (.aload_n 0, 1) := by decide +kernel
theorem dX10_roomsOf_6 : decode cX10_roomsOf 6 = .ok (.getfield 277, 3) := by decide +kernel
theorem dX10_roomsOf_9 : decode cX10_roomsOf 9 = .ok (.if_icmp .ge 20, 3) := by decide +kernel
theorem dX10_roomsOf_12 : decode cX10_roomsOf 12 = .ok (.iload_n 1, 1) := by decide +kernel
theorem dX10_roomsOf_13 : decode cX10_roomsOf 13 = .ok (.iconst 1, 1) := by decide +kernel
theorem dX10_roomsOf_14 : decode cX10_roomsOf 14 = .ok (.aload_n 0, 1) := by decide +kernel
theorem dX10_roomsOf_15 : decode cX10_roomsOf 15 = .ok (.iload_n 2, 1) := by decide +kernel
theorem dX10_roomsOf_16 : decode cX10_roomsOf 16 = .ok (.invokevirtual 286, 3) := by decide +kernel
theorem dX10_roomsOf_19 : decode cX10_roomsOf 19 = .ok (.l2i, 1) := by decide +kernel
theorem dX10_roomsOf_20 : decode cX10_roomsOf 20 = .ok (.ishl, 1) := by decide +kernel
theorem dX10_roomsOf_21 : decode cX10_roomsOf 21 = .ok (.ior, 1) := by decide +kernel
theorem dX10_roomsOf_22 : decode cX10_roomsOf 22 = .ok (.istore_n 1, 1) := by decide +kernel
theorem dX10_roomsOf_23 : decode cX10_roomsOf 23 = .ok (.iinc 2 1, 3) := by decide +kernel
theorem dX10_roomsOf_26 : decode cX10_roomsOf 26 = .ok (.goto (-22), 3) := by decide +kernel
theorem dX10_roomsOf_29 : decode cX10_roomsOf 29 = .ok (.iload_n 1, 1) := by decide +kernel
theorem dX10_roomsOf_30 : decode cX10_roomsOf 30 = .ok (.ireturn, 1) := by decide +kernel
theorem dX10_lengthOf_0 : decode cX10_lengthOf 0 = .ok (.iconst 0, 1) := by decide +kernel
theorem dX10_lengthOf_1 : decode cX10_lengthOf 1 = .ok (.istore_n 2, 1) := by decide +kernel
theorem dX10_lengthOf_2 : decode cX10_lengthOf 2 = .ok (.iconst 1, 1) := by decide +kernel
theorem dX10_lengthOf_3 : decode cX10_lengthOf 3 = .ok (.istore_n 3, 1) := by decide +kernel
theorem dX10_lengthOf_4 : decode cX10_lengthOf 4 = .ok (.iload_n 3, 1) := by decide +kernel
theorem dX10_lengthOf_5 : decode cX10_lengthOf 5 = .ok (.aload_n 1, 1) := by decide +kernel
theorem dX10_lengthOf_6 : decode cX10_lengthOf 6 = .ok (.getfield 277, 3) := by decide +kernel
theorem dX10_lengthOf_9 : decode cX10_lengthOf 9 = .ok (.if_icmp .ge 33, 3) := by decide +kernel
theorem dX10_lengthOf_12 : decode cX10_lengthOf 12 = .ok (.iload_n 2, 1) := by decide +kernel
theorem dX10_lengthOf_13 : decode cX10_lengthOf 13 = .ok (.aload_n 0, 1) := by decide +kernel
theorem dX10_lengthOf_14 : decode cX10_lengthOf 14 = .ok (.getfield 10, 3) := by decide +kernel
theorem dX10_lengthOf_17 : decode cX10_lengthOf 17 = .ok (.aload_n 1, 1) := by decide +kernel
theorem dX10_lengthOf_18 : decode cX10_lengthOf 18 = .ok (.iload_n 3, 1) := by decide +kernel
theorem dX10_lengthOf_19 : decode cX10_lengthOf 19 = .ok (.iconst 1, 1) := by decide +kernel
theorem dX10_lengthOf_20 : decode cX10_lengthOf 20 = .ok (.isub, 1) := by decide +kernel
theorem dX10_lengthOf_21 : decode cX10_lengthOf 21 = .ok (.invokevirtual 286, 3) := by decide +kernel
theorem dX10_lengthOf_24 : decode cX10_lengthOf 24 = .ok (.l2i, 1) := by decide +kernel
theorem dX10_lengthOf_25 : decode cX10_lengthOf 25 = .ok (.aload_n 1, 1) := by decide +kernel
theorem dX10_lengthOf_26 : decode cX10_lengthOf 26 = .ok (.iload_n 3, 1) := by decide +kernel
theorem dX10_lengthOf_27 : decode cX10_lengthOf 27 = .ok (.invokevirtual 286, 3) := by decide +kernel
theorem dX10_lengthOf_30 : decode cX10_lengthOf 30 = .ok (.l2i, 1) := by decide +kernel
theorem dX10_lengthOf_31 : decode cX10_lengthOf 31 = .ok (.invokevirtual 442, 3) := by decide +kernel
theorem dX10_lengthOf_34 : decode cX10_lengthOf 34 = .ok (.iadd, 1) := by decide +kernel
theorem dX10_lengthOf_35 : decode cX10_lengthOf 35 = .ok (.istore_n 2, 1) := by decide +kernel
theorem dX10_lengthOf_36 : decode cX10_lengthOf 36 = .ok (.iinc 3 1, 3) := by decide +kernel
theorem dX10_lengthOf_39 : decode cX10_lengthOf 39 = .ok (.goto (-35), 3) := by decide +kernel
theorem dX10_lengthOf_42 : decode cX10_lengthOf 42 = .ok (.iload_n 2, 1) := by decide +kernel
theorem dX10_lengthOf_43 : decode cX10_lengthOf 43 = .ok (.ireturn, 1) := by decide +kernel
theorem dX10_gravelRefusal_0 : decode cX10_gravelRefusal 0 = .ok (.aload_n 0, 1) := by decide +kernel
theorem dX10_gravelRefusal_1 : decode cX10_gravelRefusal 1 = .ok (.iconst 0, 1) := by decide +kernel
theorem dX10_gravelRefusal_2 : decode cX10_gravelRefusal 2 = .ok (.invokevirtual 274, 3) := by decide +kernel
theorem dX10_gravelRefusal_5 : decode cX10_gravelRefusal 5 = .ok (.istore_n 1, 1) := by decide +kernel
theorem dX10_gravelRefusal_6 : decode cX10_gravelRefusal 6 = .ok (.iload_n 1, 1) := by decide +kernel
theorem dX10_gravelRefusal_7 : decode cX10_gravelRefusal 7 = .ok (.ifCond .eq 5, 3) := by decide +kernel
theorem dX10_gravelRefusal_10 : decode cX10_gravelRefusal 10 = .ok (.iload_n 1, 1) := by decide +kernel
theorem dX10_gravelRefusal_11 : decode cX10_gravelRefusal 11 = .ok (.ireturn, 1) := by decide +kernel
theorem dX10_gravelRefusal_12 : decode cX10_gravelRefusal 12 = .ok (.aload_n 0, 1) := by decide +kernel
theorem dX10_gravelRefusal_13 : decode cX10_gravelRefusal 13 = .ok (.getfield 277, 3) := by decide +kernel
theorem dX10_gravelRefusal_16 : decode cX10_gravelRefusal 16 = .ok (.iconst 2, 1) := by decide +kernel
theorem dX10_gravelRefusal_17 : decode cX10_gravelRefusal 17 = .ok (.irem, 1) := by decide +kernel
theorem dX10_gravelRefusal_18 : decode cX10_gravelRefusal 18 = .ok (.ifCond .eq 6, 3) := by decide +kernel
theorem dX10_gravelRefusal_21 : decode cX10_gravelRefusal 21 = .ok (.bipush (-5), 2) := by decide +kernel
theorem dX10_gravelRefusal_23 : decode cX10_gravelRefusal 23 = .ok (.ireturn, 1) := by decide +kernel
theorem dX10_gravelRefusal_24 : decode cX10_gravelRefusal 24 = .ok (.iconst 0, 1) := by decide +kernel
theorem dX10_gravelRefusal_25 : decode cX10_gravelRefusal 25 = .ok (.istore_n 2, 1) := by decide +kernel
theorem dX10_gravelRefusal_26 : decode cX10_gravelRefusal 26 = .ok (.iload_n 2, 1) := by decide +kernel
theorem dX10_gravelRefusal_27 : decode cX10_gravelRefusal 27 = .ok (.aload_n 0, 1) := by decide +kernel
theorem dX10_gravelRefusal_28 : decode cX10_gravelRefusal 28 = .ok (.getfield 277, 3) := by decide +kernel
theorem dX10_gravelRefusal_31 : decode cX10_gravelRefusal 31 = .ok (.if_icmp .ge 44, 3) := by decide +kernel
theorem dX10_gravelRefusal_34 : decode cX10_gravelRefusal 34 = .ok (.aload_n 0, 1) := by decide +kernel
theorem dX10_gravelRefusal_35 : decode cX10_gravelRefusal 35 = .ok (.iload_n 2, 1) := by decide +kernel
theorem dX10_gravelRefusal_36 : decode cX10_gravelRefusal 36 = .ok (.invokevirtual 286, 3) := by decide +kernel
theorem dX10_gravelRefusal_39 : decode cX10_gravelRefusal 39 = .ok (.lconst 0, 1) := by decide +kernel
theorem dX10_gravelRefusal_40 : decode cX10_gravelRefusal 40 = .ok (.lcmp, 1) := by decide +kernel
theorem dX10_gravelRefusal_41 : decode cX10_gravelRefusal 41 = .ok (.ifCond .lt 25, 3) := by decide +kernel
theorem dX10_gravelRefusal_44 : decode cX10_gravelRefusal 44 = .ok (.aload_n 0, 1) := by decide +kernel
theorem dX10_gravelRefusal_45 : decode cX10_gravelRefusal 45 = .ok (.iload_n 2, 1) := by decide +kernel
theorem dX10_gravelRefusal_46 : decode cX10_gravelRefusal 46 = .ok (.invokevirtual 286, 3) := by decide +kernel
theorem dX10_gravelRefusal_49 : decode cX10_gravelRefusal 49 = .ok (.iload_n 2, 1) := by decide +kernel
theorem dX10_gravelRefusal_50 : decode cX10_gravelRefusal 50 = .ok (.iconst 2, 1) := by decide +kernel
theorem dX10_gravelRefusal_51 : decode cX10_gravelRefusal 51 = .ok (.irem, 1) := by decide +kernel
theorem dX10_gravelRefusal_52 : decode cX10_gravelRefusal 52 = .ok (.ifCond .ne 7, 3) := by decide +kernel
theorem dX10_gravelRefusal_55 : decode cX10_gravelRefusal 55 = .ok (.iconst 1, 1) := by decide +kernel
theorem dX10_gravelRefusal_56 : decode cX10_gravelRefusal 56 = .ok (.goto 5, 3) := by decide +kernel
theorem dX10_gravelRefusal_59 : decode cX10_gravelRefusal 59 = .ok (.bipush 99, 2) := by decide +kernel
theorem dX10_gravelRefusal_61 : decode cX10_gravelRefusal 61 = .ok (.i2l, 1) := by decide +kernel
theorem dX10_gravelRefusal_62 : decode cX10_gravelRefusal 62 = .ok (.lcmp, 1) := by decide +kernel
theorem dX10_gravelRefusal_63 : decode cX10_gravelRefusal 63 = .ok (.ifCond .le 6, 3) := by decide +kernel
theorem dX10_gravelRefusal_66 : decode cX10_gravelRefusal 66 = .ok (.bipush (-5), 2) := by decide +kernel
theorem dX10_gravelRefusal_68 : decode cX10_gravelRefusal 68 = .ok (.ireturn, 1) := by decide +kernel
theorem dX10_gravelRefusal_69 : decode cX10_gravelRefusal 69 = .ok (.iinc 2 1, 3) := by decide +kernel
theorem dX10_gravelRefusal_72 : decode cX10_gravelRefusal 72 = .ok (.goto (-46), 3) := by decide +kernel
theorem dX10_gravelRefusal_75 : decode cX10_gravelRefusal 75 = .ok (.iconst 0, 1) := by decide +kernel
theorem dX10_gravelRefusal_76 : decode cX10_gravelRefusal 76 = .ok (.ireturn, 1) := by decide +kernel
theorem dX10_firstOtherwise_0 : decode cX10_firstOtherwise 0 = .ok (.iconst 0, 1) := by decide +kernel
theorem dX10_firstOtherwise_1 : decode cX10_firstOtherwise 1 = .ok (.istore 4, 2) := by decide +kernel
theorem dX10_firstOtherwise_3 : decode cX10_firstOtherwise 3 = .ok (.iload 4, 2) := by decide +kernel
theorem dX10_firstOtherwise_5 : decode cX10_firstOtherwise 5 = .ok (.iconst 1, 1) := by decide +kernel
theorem dX10_firstOtherwise_6 : decode cX10_firstOtherwise 6 = .ok (.iadd, 1) := by decide +kernel
theorem dX10_firstOtherwise_7 : decode cX10_firstOtherwise 7 = .ok (.aload_n 1, 1) := by decide +kernel
theorem dX10_firstOtherwise_8 : decode cX10_firstOtherwise 8 = .ok (.getfield 277, 3) := by decide +kernel
theorem dX10_firstOtherwise_11 : decode cX10_firstOtherwise 11 = .ok (.if_icmp .ge 59, 3) := by decide +kernel
theorem dX10_firstOtherwise_14 : decode cX10_firstOtherwise 14 = .ok (.aload_n 0, 1) := by decide +kernel
theorem dX10_firstOtherwise_15 : decode cX10_firstOtherwise 15 = .ok (.iload_n 3, 1) := by decide +kernel
theorem dX10_firstOtherwise_16 : decode cX10_firstOtherwise 16 = .ok (.iload_n 2, 1) := by decide +kernel
theorem dX10_firstOtherwise_17 : decode cX10_firstOtherwise 17 = .ok (.bipush 10, 2) := by decide +kernel
theorem dX10_firstOtherwise_19 : decode cX10_firstOtherwise 19 = .ok (.idiv, 1) := by decide +kernel
theorem dX10_firstOtherwise_20 : decode cX10_firstOtherwise 20 = .ok (.iload_n 2, 1) := by decide +kernel
theorem dX10_firstOtherwise_21 : decode cX10_firstOtherwise 21 = .ok (.bipush 10, 2) := by decide +kernel
theorem dX10_firstOtherwise_23 : decode cX10_firstOtherwise 23 = .ok (.irem, 1) := by decide +kernel
theorem dX10_firstOtherwise_24 : decode cX10_firstOtherwise 24 = .ok (.aload_n 1, 1) := by decide +kernel
theorem dX10_firstOtherwise_25 : decode cX10_firstOtherwise 25 = .ok (.iload 4, 2) := by decide +kernel
theorem dX10_firstOtherwise_27 : decode cX10_firstOtherwise 27 = .ok (.iconst 1, 1) := by decide +kernel
theorem dX10_firstOtherwise_28 : decode cX10_firstOtherwise 28 = .ok (.iadd, 1) := by decide +kernel
theorem dX10_firstOtherwise_29 : decode cX10_firstOtherwise 29 = .ok (.invokevirtual 286, 3) := by decide +kernel
theorem dX10_firstOtherwise_32 : decode cX10_firstOtherwise 32 = .ok (.l2i, 1) := by decide +kernel
theorem dX10_firstOtherwise_33 : decode cX10_firstOtherwise 33 = .ok (.invokevirtual 302, 3) := by decide +kernel
theorem dX10_firstOtherwise_36 : decode cX10_firstOtherwise 36 = .ok (.istore 5, 2) := by decide +kernel
theorem dX10_firstOtherwise_38 : decode cX10_firstOtherwise 38 = .ok (.iload 5, 2) := by decide +kernel
theorem dX10_firstOtherwise_40 : decode cX10_firstOtherwise 40 = .ok (.aload_n 1, 1) := by decide +kernel
theorem dX10_firstOtherwise_41 : decode cX10_firstOtherwise 41 = .ok (.iload 4, 2) := by decide +kernel
theorem dX10_firstOtherwise_43 : decode cX10_firstOtherwise 43 = .ok (.invokevirtual 286, 3) := by decide +kernel
theorem dX10_firstOtherwise_46 : decode cX10_firstOtherwise 46 = .ok (.lconst 1, 1) := by decide +kernel
theorem dX10_firstOtherwise_47 : decode cX10_firstOtherwise 47 = .ok (.lcmp, 1) := by decide +kernel
theorem dX10_firstOtherwise_48 : decode cX10_firstOtherwise 48 = .ok (.ifCond .ne 7, 3) := by decide +kernel
theorem dX10_firstOtherwise_51 : decode cX10_firstOtherwise 51 = .ok (.iconst 1, 1) := by decide +kernel
theorem dX10_firstOtherwise_52 : decode cX10_firstOtherwise 52 = .ok (.goto 4, 3) := by decide +kernel
theorem dX10_firstOtherwise_55 : decode cX10_firstOtherwise 55 = .ok (.iconst 0, 1) := by decide +kernel
theorem dX10_firstOtherwise_56 : decode cX10_firstOtherwise 56 = .ok (.if_icmp .eq 8, 3) := by decide +kernel
theorem dX10_firstOtherwise_59 : decode cX10_firstOtherwise 59 = .ok (.iload 4, 2) := by decide +kernel
theorem dX10_firstOtherwise_61 : decode cX10_firstOtherwise 61 = .ok (.iconst 2, 1) := by decide +kernel
theorem dX10_firstOtherwise_62 : decode cX10_firstOtherwise 62 = .ok (.idiv, 1) := by decide +kernel
theorem dX10_firstOtherwise_63 : decode cX10_firstOtherwise 63 = .ok (.ireturn, 1) := by decide +kernel
theorem dX10_firstOtherwise_64 : decode cX10_firstOtherwise 64 = .ok (.iinc 4 2, 3) := by decide +kernel
theorem dX10_firstOtherwise_67 : decode cX10_firstOtherwise 67 = .ok (.goto (-64), 3) := by decide +kernel
theorem dX10_firstOtherwise_70 : decode cX10_firstOtherwise 70 = .ok (.iconst (-1), 1) := by decide +kernel
theorem dX10_firstOtherwise_71 : decode cX10_firstOtherwise 71 = .ok (.ireturn, 1) := by decide +kernel
theorem dX10_isSo_0 : decode cX10_isSo 0 = .ok (.aload_n 0, 1) := by decide +kernel
theorem dX10_isSo_1 : decode cX10_isSo 1 = .ok (.lload_n 1, 1) := by decide +kernel
theorem dX10_isSo_2 : decode cX10_isSo 2 = .ok (.l2i, 1) := by decide +kernel
theorem dX10_isSo_3 : decode cX10_isSo 3 = .ok (.invokevirtual 137, 3) := by decide +kernel
theorem dX10_isSo_6 : decode cX10_isSo 6 = .ok (.ifCond .eq 15, 3) := by decide +kernel
theorem dX10_isSo_9 : decode cX10_isSo 9 = .ok (.lload_n 3, 1) := by decide +kernel
theorem dX10_isSo_10 : decode cX10_isSo 10 = .ok (.lconst 0, 1) := by decide +kernel
theorem dX10_isSo_11 : decode cX10_isSo 11 = .ok (.lcmp, 1) := by decide +kernel
theorem dX10_isSo_12 : decode cX10_isSo 12 = .ok (.ifCond .lt 9, 3) := by decide +kernel
theorem dX10_isSo_15 : decode cX10_isSo 15 = .ok (.lload_n 3, 1) := by decide +kernel
theorem dX10_isSo_16 : decode cX10_isSo 16 = .ok (.lconst 1, 1) := by decide +kernel
theorem dX10_isSo_17 : decode cX10_isSo 17 = .ok (.lcmp, 1) := by decide +kernel
theorem dX10_isSo_18 : decode cX10_isSo 18 = .ok (.ifCond .le 5, 3) := by decide +kernel
theorem dX10_isSo_21 : decode cX10_isSo 21 = .ok (.iconst 0, 1) := by decide +kernel
theorem dX10_isSo_22 : decode cX10_isSo 22 = .ok (.ireturn, 1) := by decide +kernel
theorem dX10_isSo_23 : decode cX10_isSo 23 = .ok (.aload_n 0, 1) := by decide +kernel
theorem dX10_isSo_24 : decode cX10_isSo 24 = .ok (.lload_n 1, 1) := by decide +kernel
theorem dX10_isSo_25 : decode cX10_isSo 25 = .ok (.l2i, 1) := by decide +kernel
theorem dX10_isSo_26 : decode cX10_isSo 26 = .ok (.lload_n 3, 1) := by decide +kernel
theorem dX10_isSo_27 : decode cX10_isSo 27 = .ok (.l2i, 1) := by decide +kernel
theorem dX10_isSo_28 : decode cX10_isSo 28 = .ok (.aload_n 0, 1) := by decide +kernel
theorem dX10_isSo_29 : decode cX10_isSo 29 = .ok (.getfield 47, 3) := by decide +kernel
theorem dX10_isSo_32 : decode cX10_isSo 32 = .ok (.invokevirtual 161, 3) := by decide +kernel
theorem dX10_isSo_35 : decode cX10_isSo 35 = .ok (.ifCond .eq 21, 3) := by decide +kernel
theorem dX10_isSo_38 : decode cX10_isSo 38 = .ok (.aload_n 0, 1) := by decide +kernel
theorem dX10_isSo_39 : decode cX10_isSo 39 = .ok (.getfield 47, 3) := by decide +kernel
theorem dX10_isSo_42 : decode cX10_isSo 42 = .ok (.invokevirtual 229, 3) := by decide +kernel
theorem dX10_isSo_45 : decode cX10_isSo 45 = .ok (.i2l, 1) := by decide +kernel
theorem dX10_isSo_46 : decode cX10_isSo 46 = .ok (.lload 5, 2) := by decide +kernel
theorem dX10_isSo_48 : decode cX10_isSo 48 = .ok (.lcmp, 1) := by decide +kernel
theorem dX10_isSo_49 : decode cX10_isSo 49 = .ok (.ifCond .ne 7, 3) := by decide +kernel
theorem dX10_isSo_52 : decode cX10_isSo 52 = .ok (.iconst 1, 1) := by decide +kernel
theorem dX10_isSo_53 : decode cX10_isSo 53 = .ok (.goto 4, 3) := by decide +kernel
theorem dX10_isSo_56 : decode cX10_isSo 56 = .ok (.iconst 0, 1) := by decide +kernel
theorem dX10_isSo_57 : decode cX10_isSo 57 = .ok (.ireturn, 1) := by decide +kernel
