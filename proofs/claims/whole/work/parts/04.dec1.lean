theorem dX0_init_0 : decode cX0_init 0 = .ok (.aload_n 0, 1) := by decide +kernel
theorem dX0_init_1 : decode cX0_init 1 = .ok (.invokespecial 1, 3) := by decide +kernel
theorem dX0_init_4 : decode cX0_init 4 = .ok (.aload_n 0, 1) := by decide +kernel
theorem dX0_init_5 : decode cX0_init 5 = .ok (.bipush 40, 2) := by decide +kernel
theorem dX0_init_7 : decode cX0_init 7 = .ok (.newarray .int, 2) := by decide +kernel
theorem dX0_init_9 : decode cX0_init 9 = .ok (.putfield 9, 3) := by decide +kernel
theorem dX0_init_12 : decode cX0_init 12 = .ok (.aload_n 0, 1) := by decide +kernel
theorem dX0_init_13 : decode cX0_init 13 = .ok (.bipush 40, 2) := by decide +kernel
theorem dX0_init_15 : decode cX0_init 15 = .ok (.newarray .int, 2) := by decide +kernel
theorem dX0_init_17 : decode cX0_init 17 = .ok (.putfield 13, 3) := by decide +kernel
theorem dX0_init_20 : decode cX0_init 20 = .ok (.aload_n 0, 1) := by decide +kernel
theorem dX0_init_21 : decode cX0_init 21 = .ok (.bipush 40, 2) := by decide +kernel
theorem dX0_init_23 : decode cX0_init 23 = .ok (.newarray .int, 2) := by decide +kernel
theorem dX0_init_25 : decode cX0_init 25 = .ok (.putfield 16, 3) := by decide +kernel
theorem dX0_init_28 : decode cX0_init 28 = .ok (.aload_n 0, 1) := by decide +kernel
theorem dX0_init_29 : decode cX0_init 29 = .ok (.iconst 0, 1) := by decide +kernel
theorem dX0_init_30 : decode cX0_init 30 = .ok (.putfield 19, 3) := by decide +kernel
theorem dX0_init_33 : decode cX0_init 33 = .ok (.aload_n 0, 1) := by decide +kernel
theorem dX0_init_34 : decode cX0_init 34 = .ok (.iconst 0, 1) := by decide +kernel
theorem dX0_init_35 : decode cX0_init 35 = .ok (.putfield 23, 3) := by decide +kernel
theorem dX0_init_38 : decode cX0_init 38 = .ok (.return_, 1) := by decide +kernel
theorem dX0_add_0 : decode cX0_add 0 = .ok (.aload_n 0, 1) := by decide +kernel
theorem dX0_add_1 : decode cX0_add 1 = .ok (.getfield 23, 3) := by decide +kernel
theorem dX0_add_4 : decode cX0_add 4 = .ok (.bipush 40, 2) := by decide +kernel
theorem dX0_add_6 : decode cX0_add 6 = .ok (.if_icmp .lt 7, 3) := by decide +kernel
theorem dX0_add_9 : decode cX0_add 9 = .ok (.aload_n 0, 1) := by decide +kernel
theorem dX0_add_10 : decode cX0_add 10 = .ok (.invokevirtual 26, 3) := by decide +kernel
theorem dX0_add_13 : decode cX0_add 13 = .ok (.aload_n 0, 1) := by decide +kernel
theorem dX0_add_14 : decode cX0_add 14 = .ok (.getfield 9, 3) := by decide +kernel
theorem dX0_add_17 : decode cX0_add 17 = .ok (.aload_n 0, 1) := by decide +kernel
theorem dX0_add_18 : decode cX0_add 18 = .ok (.getfield 23, 3) := by decide +kernel
theorem dX0_add_21 : decode cX0_add 21 = .ok (.iload_n 1, 1) := by decide +kernel
theorem dX0_add_22 : decode cX0_add 22 = .ok (.iastore, 1) := by decide +kernel
theorem dX0_add_23 : decode cX0_add 23 = .ok (.aload_n 0, 1) := by decide +kernel
theorem dX0_add_24 : decode cX0_add 24 = .ok (.getfield 13, 3) := by decide +kernel
theorem dX0_add_27 : decode cX0_add 27 = .ok (.aload_n 0, 1) := by decide +kernel
theorem dX0_add_28 : decode cX0_add 28 = .ok (.getfield 23, 3) := by decide +kernel
theorem dX0_add_31 : decode cX0_add 31 = .ok (.iload_n 2, 1) := by decide +kernel
theorem dX0_add_32 : decode cX0_add 32 = .ok (.iastore, 1) := by decide +kernel
theorem dX0_add_33 : decode cX0_add 33 = .ok (.aload_n 0, 1) := by decide +kernel
theorem dX0_add_34 : decode cX0_add 34 = .ok (.getfield 16, 3) := by decide +kernel
theorem dX0_add_37 : decode cX0_add 37 = .ok (.aload_n 0, 1) := by decide +kernel
theorem dX0_add_38 : decode cX0_add 38 = .ok (.getfield 23, 3) := by decide +kernel
theorem dX0_add_41 : decode cX0_add 41 = .ok (.iload_n 3, 1) := by decide +kernel
theorem dX0_add_42 : decode cX0_add 42 = .ok (.iastore, 1) := by decide +kernel
theorem dX0_add_43 : decode cX0_add 43 = .ok (.aload_n 0, 1) := by decide +kernel
theorem dX0_add_44 : decode cX0_add 44 = .ok (.dup, 1) := by decide +kernel
theorem dX0_add_45 : decode cX0_add 45 = .ok (.getfield 23, 3) := by decide +kernel
theorem dX0_add_48 : decode cX0_add 48 = .ok (.iconst 1, 1) := by decide +kernel
theorem dX0_add_49 : decode cX0_add 49 = .ok (.iadd, 1) := by decide +kernel
theorem dX0_add_50 : decode cX0_add 50 = .ok (.putfield 23, 3) := by decide +kernel
theorem dX0_add_53 : decode cX0_add 53 = .ok (.aload_n 0, 1) := by decide +kernel
theorem dX0_add_54 : decode cX0_add 54 = .ok (.aload_n 0, 1) := by decide +kernel
theorem dX0_add_55 : decode cX0_add 55 = .ok (.getfield 23, 3) := by decide +kernel
theorem dX0_add_58 : decode cX0_add 58 = .ok (.putfield 19, 3) := by decide +kernel
theorem dX0_add_61 : decode cX0_add 61 = .ok (.return_, 1) := by decide +kernel
theorem dX0_takeBack_0 : decode cX0_takeBack 0 = .ok (.aload_n 0, 1) := by decide +kernel
theorem dX0_takeBack_1 : decode cX0_takeBack 1 = .ok (.getfield 23, 3) := by decide +kernel
theorem dX0_takeBack_4 : decode cX0_takeBack 4 = .ok (.ifCond .le 35, 3) := by decide +kernel
theorem dX0_takeBack_7 : decode cX0_takeBack 7 = .ok (.aload_n 0, 1) := by decide +kernel
theorem dX0_takeBack_8 : decode cX0_takeBack 8 = .ok (.dup, 1) := by decide +kernel
theorem dX0_takeBack_9 : decode cX0_takeBack 9 = .ok (.getfield 23, 3) := by decide +kernel
theorem dX0_takeBack_12 : decode cX0_takeBack 12 = .ok (.iconst 1, 1) := by decide +kernel
theorem dX0_takeBack_13 : decode cX0_takeBack 13 = .ok (.isub, 1) := by decide +kernel
theorem dX0_takeBack_14 : decode cX0_takeBack 14 = .ok (.putfield 23, 3) := by decide +kernel
theorem dX0_takeBack_17 : decode cX0_takeBack 17 = .ok (.aload_n 1, 1) := by decide +kernel
theorem dX0_takeBack_18 : decode cX0_takeBack 18 = .ok (.aload_n 0, 1) := by decide +kernel
theorem dX0_takeBack_19 : decode cX0_takeBack 19 = .ok (.getfield 9, 3) := by decide +kernel
theorem dX0_takeBack_22 : decode cX0_takeBack 22 = .ok (.aload_n 0, 1) := by decide +kernel
theorem dX0_takeBack_23 : decode cX0_takeBack 23 = .ok (.getfield 23, 3) := by decide +kernel
theorem dX0_takeBack_26 : decode cX0_takeBack 26 = .ok (.iaload, 1) := by decide +kernel
theorem dX0_takeBack_27 : decode cX0_takeBack 27 = .ok (.aload_n 0, 1) := by decide +kernel
theorem dX0_takeBack_28 : decode cX0_takeBack 28 = .ok (.getfield 13, 3) := by decide +kernel
theorem dX0_takeBack_31 : decode cX0_takeBack 31 = .ok (.aload_n 0, 1) := by decide +kernel
theorem dX0_takeBack_32 : decode cX0_takeBack 32 = .ok (.getfield 23, 3) := by decide +kernel
theorem dX0_takeBack_35 : decode cX0_takeBack 35 = .ok (.iaload, 1) := by decide +kernel
theorem dX0_takeBack_36 : decode cX0_takeBack 36 = .ok (.invokevirtual 29, 3) := by decide +kernel
theorem dX0_takeBack_39 : decode cX0_takeBack 39 = .ok (.return_, 1) := by decide +kernel
theorem dX0_doAgain_0 : decode cX0_doAgain 0 = .ok (.aload_n 0, 1) := by decide +kernel
theorem dX0_doAgain_1 : decode cX0_doAgain 1 = .ok (.getfield 23, 3) := by decide +kernel
theorem dX0_doAgain_4 : decode cX0_doAgain 4 = .ok (.aload_n 0, 1) := by decide +kernel
theorem dX0_doAgain_5 : decode cX0_doAgain 5 = .ok (.getfield 19, 3) := by decide +kernel
theorem dX0_doAgain_8 : decode cX0_doAgain 8 = .ok (.if_icmp .ge 35, 3) := by decide +kernel
theorem dX0_doAgain_11 : decode cX0_doAgain 11 = .ok (.aload_n 1, 1) := by decide +kernel
theorem dX0_doAgain_12 : decode cX0_doAgain 12 = .ok (.aload_n 0, 1) := by decide +kernel
theorem dX0_doAgain_13 : decode cX0_doAgain 13 = .ok (.getfield 9, 3) := by decide +kernel
theorem dX0_doAgain_16 : decode cX0_doAgain 16 = .ok (.aload_n 0, 1) := by decide +kernel
theorem dX0_doAgain_17 : decode cX0_doAgain 17 = .ok (.getfield 23, 3) := by decide +kernel
theorem dX0_doAgain_20 : decode cX0_doAgain 20 = .ok (.iaload, 1) := by decide +kernel
theorem dX0_doAgain_21 : decode cX0_doAgain 21 = .ok (.aload_n 0, 1) := by decide +kernel
theorem dX0_doAgain_22 : decode cX0_doAgain 22 = .ok (.getfield 16, 3) := by decide +kernel
theorem dX0_doAgain_25 : decode cX0_doAgain 25 = .ok (.aload_n 0, 1) := by decide +kernel
theorem dX0_doAgain_26 : decode cX0_doAgain 26 = .ok (.getfield 23, 3) := by decide +kernel
theorem dX0_doAgain_29 : decode cX0_doAgain 29 = .ok (.iaload, 1) := by decide +kernel
theorem dX0_doAgain_30 : decode cX0_doAgain 30 = .ok (.invokevirtual 29, 3) := by decide +kernel
theorem dX0_doAgain_33 : decode cX0_doAgain 33 = .ok (.aload_n 0, 1) := by decide +kernel
theorem dX0_doAgain_34 : decode cX0_doAgain 34 = .ok (.dup, 1) := by decide +kernel
theorem dX0_doAgain_35 : decode cX0_doAgain 35 = .ok (.getfield 23, 3) := by decide +kernel
theorem dX0_doAgain_38 : decode cX0_doAgain 38 = .ok (.iconst 1, 1) := by decide +kernel
theorem dX0_doAgain_39 : decode cX0_doAgain 39 = .ok (.iadd, 1) := by decide +kernel
theorem dX0_doAgain_40 : decode cX0_doAgain 40 = .ok (.putfield 23, 3) := by decide +kernel
theorem dX0_doAgain_43 : decode cX0_doAgain 43 = .ok (.return_, 1) := by decide +kernel
theorem dX0_dropOldest_0 : decode cX0_dropOldest 0 = .ok (.iconst 1, 1) := by decide +kernel
theorem dX0_dropOldest_1 : decode cX0_dropOldest 1 = .ok (.istore_n 1, 1) := by decide +kernel
theorem dX0_dropOldest_2 : decode cX0_dropOldest 2 = .ok (.iload_n 1, 1) := by decide +kernel
theorem dX0_dropOldest_3 : decode cX0_dropOldest 3 = .ok (.bipush 40, 2) := by decide +kernel
theorem dX0_dropOldest_5 : decode cX0_dropOldest 5 = .ok (.if_icmp .ge 51, 3) := by decide +kernel
theorem dX0_dropOldest_8 : decode cX0_dropOldest 8 = .ok (.aload_n 0, 1) := by decide +kernel
theorem dX0_dropOldest_9 : decode cX0_dropOldest 9 = .ok (.getfield 9, 3) := by decide +kernel
theorem dX0_dropOldest_12 : decode cX0_dropOldest 12 = .ok (.iload_n 1, 1) := by decide +kernel
theorem dX0_dropOldest_13 : decode cX0_dropOldest 13 = .ok (.iconst 1, 1) := by decide +kernel
theorem dX0_dropOldest_14 : decode cX0_dropOldest 14 = .ok (.isub, 1) := by decide +kernel
theorem dX0_dropOldest_15 : decode cX0_dropOldest 15 = .ok (.aload_n 0, 1) := by decide +kernel
theorem dX0_dropOldest_16 : decode cX0_dropOldest 16 = .ok (.getfield 9, 3) := by decide +kernel
theorem dX0_dropOldest_19 : decode cX0_dropOldest 19 = .ok (.iload_n 1, 1) := by decide +kernel
theorem dX0_dropOldest_20 : decode cX0_dropOldest 20 = .ok (.iaload, 1) := by decide +kernel
theorem dX0_dropOldest_21 : decode cX0_dropOldest 21 = .ok (.iastore, 1) := by decide +kernel
theorem dX0_dropOldest_22 : decode cX0_dropOldest 22 = .ok (.aload_n 0, 1) := by decide +kernel
theorem dX0_dropOldest_23 : decode cX0_dropOldest 23 = .ok (.getfield 13, 3) := by decide +kernel
theorem dX0_dropOldest_26 : decode cX0_dropOldest 26 = .ok (.iload_n 1, 1) := by decide +kernel
theorem dX0_dropOldest_27 : decode cX0_dropOldest 27 = .ok (.iconst 1, 1) := by decide +kernel
theorem dX0_dropOldest_28 : decode cX0_dropOldest 28 = .ok (.isub, 1) := by decide +kernel
theorem dX0_dropOldest_29 : decode cX0_dropOldest 29 = .ok (.aload_n 0, 1) := by decide +kernel
theorem dX0_dropOldest_30 : decode cX0_dropOldest 30 = .ok (.getfield 13, 3) := by decide +kernel
theorem dX0_dropOldest_33 : decode cX0_dropOldest 33 = .ok (.iload_n 1, 1) := by decide +kernel
theorem dX0_dropOldest_34 : decode cX0_dropOldest 34 = .ok (.iaload, 1) := by decide +kernel
theorem dX0_dropOldest_35 : decode cX0_dropOldest 35 = .ok (.iastore, 1) := by decide +kernel
theorem dX0_dropOldest_36 : decode cX0_dropOldest 36 = .ok (.aload_n 0, 1) := by decide +kernel
theorem dX0_dropOldest_37 : decode cX0_dropOldest 37 = .ok (.getfield 16, 3) := by decide +kernel
theorem dX0_dropOldest_40 : decode cX0_dropOldest 40 = .ok (.iload_n 1, 1) := by decide +kernel
theorem dX0_dropOldest_41 : decode cX0_dropOldest 41 = .ok (.iconst 1, 1) := by decide +kernel
theorem dX0_dropOldest_42 : decode cX0_dropOldest 42 = .ok (.isub, 1) := by decide +kernel
theorem dX0_dropOldest_43 : decode cX0_dropOldest 43 = .ok (.aload_n 0, 1) := by decide +kernel
theorem dX0_dropOldest_44 : decode cX0_dropOldest 44 = .ok (.getfield 16, 3) := by decide +kernel
theorem dX0_dropOldest_47 : decode cX0_dropOldest 47 = .ok (.iload_n 1, 1) := by decide +kernel
theorem dX0_dropOldest_48 : decode cX0_dropOldest 48 = .ok (.iaload, 1) := by decide +kernel
theorem dX0_dropOldest_49 : decode cX0_dropOldest 49 = .ok (.iastore, 1) := by decide +kernel
theorem dX0_dropOldest_50 : decode cX0_dropOldest 50 = .ok (.iinc 1 1, 3) := by decide +kernel
theorem dX0_dropOldest_53 : decode cX0_dropOldest 53 = .ok (.goto (-51), 3) := by decide +kernel
theorem dX0_dropOldest_56 : decode cX0_dropOldest 56 = .ok (.aload_n 0, 1) := by decide +kernel
theorem dX0_dropOldest_57 : decode cX0_dropOldest 57 = .ok (.bipush 39, 2) := by decide +kernel
theorem dX0_dropOldest_59 : decode cX0_dropOldest 59 = .ok (.putfield 23, 3) := by decide +kernel
theorem dX0_dropOldest_62 : decode cX0_dropOldest 62 = .ok (.return_, 1) := by decide +kernel
theorem dX1_init_0 : decode cX1_init 0 = .ok (.aload_n 0, 1) := by decide +kernel
theorem dX1_init_1 : decode cX1_init 1 = .ok (.invokespecial 3, 3) := by decide +kernel
theorem dX1_init_4 : decode cX1_init 4 = .ok (.aload_n 0, 1) := by decide +kernel
theorem dX1_init_5 : decode cX1_init 5 = .ok (.bipush 6, 2) := by decide +kernel
theorem dX1_init_7 : decode cX1_init 7 = .ok (.newarray .int, 2) := by decide +kernel
theorem dX1_init_9 : decode cX1_init 9 = .ok (.putfield 9, 3) := by decide +kernel
theorem dX1_init_12 : decode cX1_init 12 = .ok (.aload_n 0, 1) := by decide +kernel
theorem dX1_init_13 : decode cX1_init 13 = .ok (.iconst 0, 1) := by decide +kernel
theorem dX1_init_14 : decode cX1_init 14 = .ok (.putfield 15, 3) := by decide +kernel
theorem dX1_init_17 : decode cX1_init 17 = .ok (.aload_n 0, 1) := by decide +kernel
theorem dX1_init_18 : decode cX1_init 18 = .ok (.iconst 0, 1) := by decide +kernel
theorem dX1_init_19 : decode cX1_init 19 = .ok (.putfield 19, 3) := by decide +kernel
theorem dX1_init_22 : decode cX1_init 22 = .ok (.aload_n 0, 1) := by decide +kernel
theorem dX1_init_23 : decode cX1_init 23 = .ok (.iconst 0, 1) := by decide +kernel
theorem dX1_init_24 : decode cX1_init 24 = .ok (.putfield 22, 3) := by decide +kernel
theorem dX1_init_27 : decode cX1_init 27 = .ok (.aload_n 0, 1) := by decide +kernel
theorem dX1_init_28 : decode cX1_init 28 = .ok (.iconst 5, 1) := by decide +kernel
theorem dX1_init_29 : decode cX1_init 29 = .ok (.newarray .int, 2) := by decide +kernel
theorem dX1_init_31 : decode cX1_init 31 = .ok (.putfield 25, 3) := by decide +kernel
theorem dX1_init_34 : decode cX1_init 34 = .ok (.aload_n 0, 1) := by decide +kernel
theorem dX1_init_35 : decode cX1_init 35 = .ok (.iconst (-1), 1) := by decide +kernel
theorem dX1_init_36 : decode cX1_init 36 = .ok (.putfield 28, 3) := by decide +kernel
theorem dX1_init_39 : decode cX1_init 39 = .ok (.aload_n 0, 1) := by decide +kernel
theorem dX1_init_40 : decode cX1_init 40 = .ok (.iconst 0, 1) := by decide +kernel
theorem dX1_init_41 : decode cX1_init 41 = .ok (.putfield 31, 3) := by decide +kernel
theorem dX1_init_44 : decode cX1_init 44 = .ok (.return_, 1) := by decide +kernel
theorem dX1_use_0 : decode cX1_use 0 = .ok (.iload_n 1, 1) := by decide +kernel
theorem dX1_use_1 : decode cX1_use 1 = .ok (.ifCond .lt 40, 3) := by decide +kernel
theorem dX1_use_4 : decode cX1_use 4 = .ok (.iload_n 1, 1) := by decide +kernel
theorem dX1_use_5 : decode cX1_use 5 = .ok (.bipush 6, 2) := by decide +kernel
theorem dX1_use_7 : decode cX1_use 7 = .ok (.if_icmp .ge 34, 3) := by decide +kernel
theorem dX1_use_10 : decode cX1_use 10 = .ok (.aload_n 0, 1) := by decide +kernel
theorem dX1_use_11 : decode cX1_use 11 = .ok (.getfield 9, 3) := by decide +kernel
theorem dX1_use_14 : decode cX1_use 14 = .ok (.iload_n 1, 1) := by decide +kernel
theorem dX1_use_15 : decode cX1_use 15 = .ok (.aload_n 0, 1) := by decide +kernel
theorem dX1_use_16 : decode cX1_use 16 = .ok (.getfield 9, 3) := by decide +kernel
theorem dX1_use_19 : decode cX1_use 19 = .ok (.iload_n 1, 1) := by decide +kernel
theorem dX1_use_20 : decode cX1_use 20 = .ok (.iaload, 1) := by decide +kernel
theorem dX1_use_21 : decode cX1_use 21 = .ok (.iconst 1, 1) := by decide +kernel
theorem dX1_use_22 : decode cX1_use 22 = .ok (.iadd, 1) := by decide +kernel
theorem dX1_use_23 : decode cX1_use 23 = .ok (.bipush 12, 2) := by decide +kernel
theorem dX1_use_25 : decode cX1_use 25 = .ok (.invokestatic 35, 3) := by decide +kernel
theorem dX1_use_28 : decode cX1_use 28 = .ok (.iastore, 1) := by decide +kernel
theorem dX1_use_29 : decode cX1_use 29 = .ok (.aload_n 0, 1) := by decide +kernel
theorem dX1_use_30 : decode cX1_use 30 = .ok (.dup, 1) := by decide +kernel
theorem dX1_use_31 : decode cX1_use 31 = .ok (.getfield 15, 3) := by decide +kernel
theorem dX1_use_34 : decode cX1_use 34 = .ok (.iconst 1, 1) := by decide +kernel
theorem dX1_use_35 : decode cX1_use 35 = .ok (.iload_n 1, 1) := by decide +kernel
theorem dX1_use_36 : decode cX1_use 36 = .ok (.ishl, 1) := by decide +kernel
theorem dX1_use_37 : decode cX1_use 37 = .ok (.ior, 1) := by decide +kernel
theorem dX1_use_38 : decode cX1_use 38 = .ok (.putfield 15, 3) := by decide +kernel
theorem dX1_use_41 : decode cX1_use 41 = .ok (.return_, 1) := by decide +kernel
theorem dX1_end_0 : decode cX1_end 0 = .ok (.aload_n 0, 1) := by decide +kernel
theorem dX1_end_1 : decode cX1_end 1 = .ok (.getfield 25, 3) := by decide +kernel
theorem dX1_end_4 : decode cX1_end 4 = .ok (.iconst 0, 1) := by decide +kernel
theorem dX1_end_5 : decode cX1_end 5 = .ok (.dup2, 1) := by decide +kernel
theorem dX1_end_6 : decode cX1_end 6 = .ok (.iaload, 1) := by decide +kernel
theorem dX1_end_7 : decode cX1_end 7 = .ok (.iconst 1, 1) := by decide +kernel
theorem dX1_end_8 : decode cX1_end 8 = .ok (.iadd, 1) := by decide +kernel
theorem dX1_end_9 : decode cX1_end 9 = .ok (.iastore, 1) := by decide +kernel
theorem dX1_end_10 : decode cX1_end 10 = .ok (.aload_n 0, 1) := by decide +kernel
theorem dX1_end_11 : decode cX1_end 11 = .ok (.getfield 25, 3) := by decide +kernel
theorem dX1_end_14 : decode cX1_end 14 = .ok (.iconst 3, 1) := by decide +kernel
theorem dX1_end_15 : decode cX1_end 15 = .ok (.dup2, 1) := by decide +kernel
theorem dX1_end_16 : decode cX1_end 16 = .ok (.iaload, 1) := by decide +kernel
theorem dX1_end_17 : decode cX1_end 17 = .ok (.iload_n 1, 1) := by decide +kernel
theorem dX1_end_18 : decode cX1_end 18 = .ok (.iadd, 1) := by decide +kernel
theorem dX1_end_19 : decode cX1_end 19 = .ok (.iastore, 1) := by decide +kernel
theorem dX1_end_20 : decode cX1_end 20 = .ok (.aload_n 0, 1) := by decide +kernel
theorem dX1_end_21 : decode cX1_end 21 = .ok (.getfield 25, 3) := by decide +kernel
theorem dX1_end_24 : decode cX1_end 24 = .ok (.iconst 4, 1) := by decide +kernel
theorem dX1_end_25 : decode cX1_end 25 = .ok (.aload_n 0, 1) := by decide +kernel
theorem dX1_end_26 : decode cX1_end 26 = .ok (.getfield 25, 3) := by decide +kernel
theorem dX1_end_29 : decode cX1_end 29 = .ok (.iconst 4, 1) := by decide +kernel
theorem dX1_end_30 : decode cX1_end 30 = .ok (.iaload, 1) := by decide +kernel
theorem dX1_end_31 : decode cX1_end 31 = .ok (.iload_n 1, 1) := by decide +kernel
theorem dX1_end_32 : decode cX1_end 32 = .ok (.invokestatic 41, 3) := by decide +kernel
theorem dX1_end_35 : decode cX1_end 35 = .ok (.iastore, 1) := by decide +kernel
theorem dX1_end_36 : decode cX1_end 36 = .ok (.iload_n 2, 1) := by decide +kernel
theorem dX1_end_37 : decode cX1_end 37 = .ok (.ifCond .eq 13, 3) := by decide +kernel
theorem dX1_end_40 : decode cX1_end 40 = .ok (.aload_n 0, 1) := by decide +kernel
theorem dX1_end_41 : decode cX1_end 41 = .ok (.getfield 25, 3) := by decide +kernel
theorem dX1_end_44 : decode cX1_end 44 = .ok (.iconst 1, 1) := by decide +kernel
theorem dX1_end_45 : decode cX1_end 45 = .ok (.dup2, 1) := by decide +kernel
theorem dX1_end_46 : decode cX1_end 46 = .ok (.iaload, 1) := by decide +kernel
theorem dX1_end_47 : decode cX1_end 47 = .ok (.iconst 1, 1) := by decide +kernel
theorem dX1_end_48 : decode cX1_end 48 = .ok (.iadd, 1) := by decide +kernel
theorem dX1_end_49 : decode cX1_end 49 = .ok (.iastore, 1) := by decide +kernel
theorem dX1_end_50 : decode cX1_end 50 = .ok (.iload_n 2, 1) := by decide +kernel
theorem dX1_end_51 : decode cX1_end 51 = .ok (.ifCond .eq 35, 3) := by decide +kernel
theorem dX1_end_54 : decode cX1_end 54 = .ok (.aload_n 0, 1) := by decide +kernel
theorem dX1_end_55 : decode cX1_end 55 = .ok (.getfield 31, 3) := by decide +kernel
theorem dX1_end_58 : decode cX1_end 58 = .ok (.ifCond .ne 28, 3) := by decide +kernel
theorem dX1_end_61 : decode cX1_end 61 = .ok (.aload_n 0, 1) := by decide +kernel
theorem dX1_end_62 : decode cX1_end 62 = .ok (.getfield 25, 3) := by decide +kernel
theorem dX1_end_65 : decode cX1_end 65 = .ok (.iconst 2, 1) := by decide +kernel
theorem dX1_end_66 : decode cX1_end 66 = .ok (.dup2, 1) := by decide +kernel
theorem dX1_end_67 : decode cX1_end 67 = .ok (.iaload, 1) := by decide +kernel
theorem dX1_end_68 : decode cX1_end 68 = .ok (.iconst 1, 1) := by decide +kernel
theorem dX1_end_69 : decode cX1_end 69 = .ok (.iadd, 1) := by decide +kernel
theorem dX1_end_70 : decode cX1_end 70 = .ok (.iastore, 1) := by decide +kernel
theorem dX1_end_71 : decode cX1_end 71 = .ok (.aload_n 0, 1) := by decide +kernel
theorem dX1_end_72 : decode cX1_end 72 = .ok (.aload_n 0, 1) := by decide +kernel
theorem dX1_end_73 : decode cX1_end 73 = .ok (.getfield 19, 3) := by decide +kernel
theorem dX1_end_76 : decode cX1_end 76 = .ok (.iconst 1, 1) := by decide +kernel
theorem dX1_end_77 : decode cX1_end 77 = .ok (.iadd, 1) := by decide +kernel
theorem dX1_end_78 : decode cX1_end 78 = .ok (.bipush 99, 2) := by decide +kernel
theorem dX1_end_80 : decode cX1_end 80 = .ok (.invokestatic 35, 3) := by decide +kernel
theorem dX1_end_83 : decode cX1_end 83 = .ok (.putfield 19, 3) := by decide +kernel
theorem dX1_end_86 : decode cX1_end 86 = .ok (.aload_n 0, 1) := by decide +kernel
theorem dX1_end_87 : decode cX1_end 87 = .ok (.iconst (-1), 1) := by decide +kernel
theorem dX1_end_88 : decode cX1_end 88 = .ok (.putfield 28, 3) := by decide +kernel
theorem dX1_end_91 : decode cX1_end 91 = .ok (.return_, 1) := by decide +kernel
theorem dX1_rest_0 : decode cX1_rest 0 = .ok (.iconst 0, 1) := by decide +kernel
theorem dX1_rest_1 : decode cX1_rest 1 = .ok (.istore_n 1, 1) := by decide +kernel
theorem dX1_rest_2 : decode cX1_rest 2 = .ok (.iconst 0, 1) := by decide +kernel
theorem dX1_rest_3 : decode cX1_rest 3 = .ok (.istore_n 2, 1) := by decide +kernel
theorem dX1_rest_4 : decode cX1_rest 4 = .ok (.iload_n 2, 1) := by decide +kernel
theorem dX1_rest_5 : decode cX1_rest 5 = .ok (.bipush 6, 2) := by decide +kernel
theorem dX1_rest_7 : decode cX1_rest 7 = .ok (.if_icmp .ge 42, 3) := by decide +kernel
theorem dX1_rest_10 : decode cX1_rest 10 = .ok (.aload_n 0, 1) := by decide +kernel
theorem dX1_rest_11 : decode cX1_rest 11 = .ok (.getfield 15, 3) := by decide +kernel
theorem dX1_rest_14 : decode cX1_rest 14 = .ok (.iload_n 2, 1) := by decide +kernel
theorem dX1_rest_15 : decode cX1_rest 15 = .ok (.ishr, 1) := by decide +kernel
theorem dX1_rest_16 : decode cX1_rest 16 = .ok (.iconst 1, 1) := by decide +kernel
theorem dX1_rest_17 : decode cX1_rest 17 = .ok (.iand, 1) := by decide +kernel
theorem dX1_rest_18 : decode cX1_rest 18 = .ok (.ifCond .ne 25, 3) := by decide +kernel
theorem dX1_rest_21 : decode cX1_rest 21 = .ok (.aload_n 0, 1) := by decide +kernel
theorem dX1_rest_22 : decode cX1_rest 22 = .ok (.getfield 9, 3) := by decide +kernel
theorem dX1_rest_25 : decode cX1_rest 25 = .ok (.iload_n 2, 1) := by decide +kernel
theorem dX1_rest_26 : decode cX1_rest 26 = .ok (.iaload, 1) := by decide +kernel
theorem dX1_rest_27 : decode cX1_rest 27 = .ok (.ifCond .le 16, 3) := by decide +kernel
theorem dX1_rest_30 : decode cX1_rest 30 = .ok (.aload_n 0, 1) := by decide +kernel
theorem dX1_rest_31 : decode cX1_rest 31 = .ok (.getfield 9, 3) := by decide +kernel
theorem dX1_rest_34 : decode cX1_rest 34 = .ok (.iload_n 2, 1) := by decide +kernel
theorem dX1_rest_35 : decode cX1_rest 35 = .ok (.dup2, 1) := by decide +kernel
theorem dX1_rest_36 : decode cX1_rest 36 = .ok (.iaload, 1) := by decide +kernel
theorem dX1_rest_37 : decode cX1_rest 37 = .ok (.iconst 1, 1) := by decide +kernel
theorem dX1_rest_38 : decode cX1_rest 38 = .ok (.isub, 1) := by decide +kernel
theorem dX1_rest_39 : decode cX1_rest 39 = .ok (.iastore, 1) := by decide +kernel
theorem dX1_rest_40 : decode cX1_rest 40 = .ok (.iinc 1 1, 3) := by decide +kernel
theorem dX1_rest_43 : decode cX1_rest 43 = .ok (.iinc 2 1, 3) := by decide +kernel
theorem dX1_rest_46 : decode cX1_rest 46 = .ok (.goto (-42), 3) := by decide +kernel
theorem dX1_rest_49 : decode cX1_rest 49 = .ok (.aload_n 0, 1) := by decide +kernel
theorem dX1_rest_50 : decode cX1_rest 50 = .ok (.iconst 0, 1) := by decide +kernel
theorem dX1_rest_51 : decode cX1_rest 51 = .ok (.putfield 15, 3) := by decide +kernel
theorem dX1_rest_54 : decode cX1_rest 54 = .ok (.iload_n 1, 1) := by decide +kernel
theorem dX1_rest_55 : decode cX1_rest 55 = .ok (.ireturn, 1) := by decide +kernel
theorem dX1_copy_0 : decode cX1_copy 0 = .ok (.iconst 0, 1) := by decide +kernel
theorem dX1_copy_1 : decode cX1_copy 1 = .ok (.istore_n 2, 1) := by decide +kernel
theorem dX1_copy_2 : decode cX1_copy 2 = .ok (.iload_n 2, 1) := by decide +kernel
theorem dX1_copy_3 : decode cX1_copy 3 = .ok (.bipush 6, 2) := by decide +kernel
theorem dX1_copy_5 : decode cX1_copy 5 = .ok (.if_icmp .ge 21, 3) := by decide +kernel
theorem dX1_copy_8 : decode cX1_copy 8 = .ok (.aload_n 0, 1) := by decide +kernel
theorem dX1_copy_9 : decode cX1_copy 9 = .ok (.getfield 9, 3) := by decide +kernel
theorem dX1_copy_12 : decode cX1_copy 12 = .ok (.iload_n 2, 1) := by decide +kernel
theorem dX1_copy_13 : decode cX1_copy 13 = .ok (.aload_n 1, 1) := by decide +kernel
theorem dX1_copy_14 : decode cX1_copy 14 = .ok (.getfield 9, 3) := by decide +kernel
theorem dX1_copy_17 : decode cX1_copy 17 = .ok (.iload_n 2, 1) := by decide +kernel
theorem dX1_copy_18 : decode cX1_copy 18 = .ok (.iaload, 1) := by decide +kernel
theorem dX1_copy_19 : decode cX1_copy 19 = .ok (.iastore, 1) := by decide +kernel
theorem dX1_copy_20 : decode cX1_copy 20 = .ok (.iinc 2 1, 3) := by decide +kernel
theorem dX1_copy_23 : decode cX1_copy 23 = .ok (.goto (-21), 3) := by decide +kernel
theorem dX1_copy_26 : decode cX1_copy 26 = .ok (.iconst 0, 1) := by decide +kernel
theorem dX1_copy_27 : decode cX1_copy 27 = .ok (.istore_n 2, 1) := by decide +kernel
theorem dX1_copy_28 : decode cX1_copy 28 = .ok (.iload_n 2, 1) := by decide +kernel
theorem dX1_copy_29 : decode cX1_copy 29 = .ok (.iconst 5, 1) := by decide +kernel
theorem dX1_copy_30 : decode cX1_copy 30 = .ok (.if_icmp .ge 21, 3) := by decide +kernel
theorem dX1_copy_33 : decode cX1_copy 33 = .ok (.aload_n 0, 1) := by decide +kernel
theorem dX1_copy_34 : decode cX1_copy 34 = .ok (.getfield 25, 3) := by decide +kernel
theorem dX1_copy_37 : decode cX1_copy 37 = .ok (.iload_n 2, 1) := by decide +kernel
theorem dX1_copy_38 : decode cX1_copy 38 = .ok (.aload_n 1, 1) := by decide +kernel
theorem dX1_copy_39 : decode cX1_copy 39 = .ok (.getfield 25, 3) := by decide +kernel
theorem dX1_copy_42 : decode cX1_copy 42 = .ok (.iload_n 2, 1) := by decide +kernel
theorem dX1_copy_43 : decode cX1_copy 43 = .ok (.iaload, 1) := by decide +kernel
theorem dX1_copy_44 : decode cX1_copy 44 = .ok (.iastore, 1) := by decide +kernel
theorem dX1_copy_45 : decode cX1_copy 45 = .ok (.iinc 2 1, 3) := by decide +kernel
theorem dX1_copy_48 : decode cX1_copy 48 = .ok (.goto (-20), 3) := by decide +kernel
theorem dX1_copy_51 : decode cX1_copy 51 = .ok (.aload_n 0, 1) := by decide +kernel
theorem dX1_copy_52 : decode cX1_copy 52 = .ok (.aload_n 1, 1) := by decide +kernel
theorem dX1_copy_53 : decode cX1_copy 53 = .ok (.getfield 15, 3) := by decide +kernel
theorem dX1_copy_56 : decode cX1_copy 56 = .ok (.putfield 15, 3) := by decide +kernel
theorem dX1_copy_59 : decode cX1_copy 59 = .ok (.aload_n 0, 1) := by decide +kernel
theorem dX1_copy_60 : decode cX1_copy 60 = .ok (.aload_n 1, 1) := by decide +kernel
theorem dX1_copy_61 : decode cX1_copy 61 = .ok (.getfield 19, 3) := by decide +kernel
theorem dX1_copy_64 : decode cX1_copy 64 = .ok (.putfield 19, 3) := by decide +kernel
theorem dX1_copy_67 : decode cX1_copy 67 = .ok (.aload_n 0, 1) := by decide +kernel
theorem dX1_copy_68 : decode cX1_copy 68 = .ok (.aload_n 1, 1) := by decide +kernel
theorem dX1_copy_69 : decode cX1_copy 69 = .ok (.getfield 22, 3) := by decide +kernel
theorem dX1_copy_72 : decode cX1_copy 72 = .ok (.putfield 22, 3) := by decide +kernel
theorem dX1_copy_75 : decode cX1_copy 75 = .ok (.aload_n 0, 1) := by decide +kernel
theorem dX1_copy_76 : decode cX1_copy 76 = .ok (.aload_n 1, 1) := by decide +kernel
theorem dX1_copy_77 : decode cX1_copy 77 = .ok (.getfield 28, 3) := by decide +kernel
theorem dX1_copy_80 : decode cX1_copy 80 = .ok (.putfield 28, 3) := by decide +kernel
theorem dX1_copy_83 : decode cX1_copy 83 = .ok (.aload_n 0, 1) := by decide +kernel
theorem dX1_copy_84 : decode cX1_copy 84 = .ok (.aload_n 1, 1) := by decide +kernel
theorem dX1_copy_85 : decode cX1_copy 85 = .ok (.getfield 31, 3) := by decide +kernel
theorem dX1_copy_88 : decode cX1_copy 88 = .ok (.putfield 31, 3) := by decide +kernel
theorem dX1_copy_91 : decode cX1_copy 91 = .ok (.return_, 1) := by decide +kernel
theorem dX2_init_0 : decode cX2_init 0 = .ok (.aload_n 0, 1) := by decide +kernel
theorem dX2_init_1 : decode cX2_init 1 = .ok (.invokespecial 3, 3) := by decide +kernel
theorem dX2_init_4 : decode cX2_init 4 = .ok (.aload_n 0, 1) := by decide +kernel
theorem dX2_init_5 : decode cX2_init 5 = .ok (.iconst 0, 1) := by decide +kernel
theorem dX2_init_6 : decode cX2_init 6 = .ok (.putfield 9, 3) := by decide +kernel
theorem dX2_init_9 : decode cX2_init 9 = .ok (.aload_n 0, 1) := by decide +kernel
theorem dX2_init_10 : decode cX2_init 10 = .ok (.bipush 6, 2) := by decide +kernel
theorem dX2_init_12 : decode cX2_init 12 = .ok (.anewarray 15, 3) := by decide +kernel
theorem dX2_init_15 : decode cX2_init 15 = .ok (.putfield 17, 3) := by decide +kernel
theorem dX2_init_18 : decode cX2_init 18 = .ok (.aload_n 0, 1) := by decide +kernel
theorem dX2_init_19 : decode cX2_init 19 = .ok (.bipush 6, 2) := by decide +kernel
theorem dX2_init_21 : decode cX2_init 21 = .ok (.newarray .int, 2) := by decide +kernel
theorem dX2_init_23 : decode cX2_init 23 = .ok (.putfield 21, 3) := by decide +kernel
theorem dX2_init_26 : decode cX2_init 26 = .ok (.aload_n 0, 1) := by decide +kernel
theorem dX2_init_27 : decode cX2_init 27 = .ok (.bipush 6, 2) := by decide +kernel
theorem dX2_init_29 : decode cX2_init 29 = .ok (.newarray .long, 2) := by decide +kernel
theorem dX2_init_31 : decode cX2_init 31 = .ok (.putfield 25, 3) := by decide +kernel
theorem dX2_init_34 : decode cX2_init 34 = .ok (.aload_n 0, 1) := by decide +kernel
theorem dX2_init_35 : decode cX2_init 35 = .ok (.lconst 1, 1) := by decide +kernel
theorem dX2_init_36 : decode cX2_init 36 = .ok (.putfield 29, 3) := by decide +kernel
theorem dX2_init_39 : decode cX2_init 39 = .ok (.aload_n 0, 1) := by decide +kernel
theorem dX2_init_40 : decode cX2_init 40 = .ok (.lconst 0, 1) := by decide +kernel
theorem dX2_init_41 : decode cX2_init 41 = .ok (.putfield 33, 3) := by decide +kernel
theorem dX2_init_44 : decode cX2_init 44 = .ok (.iconst 0, 1) := by decide +kernel
theorem dX2_init_45 : decode cX2_init 45 = .ok (.istore_n 1, 1) := by decide +kernel
theorem dX2_init_46 : decode cX2_init 46 = .ok (.iload_n 1, 1) := by decide +kernel
theorem dX2_init_47 : decode cX2_init 47 = .ok (.bipush 6, 2) := by decide +kernel
theorem dX2_init_49 : decode cX2_init 49 = .ok (.if_icmp .ge 22, 3) := by decide +kernel
theorem dX2_init_52 : decode cX2_init 52 = .ok (.aload_n 0, 1) := by decide +kernel
theorem dX2_init_53 : decode cX2_init 53 = .ok (.getfield 17, 3) := by decide +kernel
theorem dX2_init_56 : decode cX2_init 56 = .ok (.iload_n 1, 1) := by decide +kernel
theorem dX2_init_57 : decode cX2_init 57 = .ok (.new 15, 3) := by decide +kernel
theorem dX2_init_60 : decode cX2_init 60 = .ok (.dup, 1) := by decide +kernel
theorem dX2_init_61 : decode cX2_init 61 = .ok (.invokespecial 36, 3) := by decide +kernel
theorem dX2_init_64 : decode cX2_init 64 = .ok (.aastore, 1) := by decide +kernel
theorem dX2_init_65 : decode cX2_init 65 = .ok (.iinc 1 1, 3) := by decide +kernel
theorem dX2_init_68 : decode cX2_init 68 = .ok (.goto (-22), 3) := by decide +kernel
theorem dX2_init_71 : decode cX2_init 71 = .ok (.return_, 1) := by decide +kernel
theorem dX2_has_0 : decode cX2_has 0 = .ok (.aload_n 0, 1) := by decide +kernel
theorem dX2_has_1 : decode cX2_has 1 = .ok (.getfield 9, 3) := by decide +kernel
theorem dX2_has_4 : decode cX2_has 4 = .ok (.iload_n 1, 1) := by decide +kernel
theorem dX2_has_5 : decode cX2_has 5 = .ok (.ishr, 1) := by decide +kernel
theorem dX2_has_6 : decode cX2_has 6 = .ok (.iconst 1, 1) := by decide +kernel
theorem dX2_has_7 : decode cX2_has 7 = .ok (.iand, 1) := by decide +kernel
theorem dX2_has_8 : decode cX2_has 8 = .ok (.iconst 1, 1) := by decide +kernel
theorem dX2_has_9 : decode cX2_has 9 = .ok (.if_icmp .ne 7, 3) := by decide +kernel
theorem dX2_has_12 : decode cX2_has 12 = .ok (.iconst 1, 1) := by decide +kernel
theorem dX2_has_13 : decode cX2_has 13 = .ok (.goto 4, 3) := by decide +kernel
theorem dX2_has_16 : decode cX2_has 16 = .ok (.iconst 0, 1) := by decide +kernel
theorem dX2_has_17 : decode cX2_has 17 = .ok (.ireturn, 1) := by decide +kernel
theorem dX2_weigh_0 : decode cX2_weigh 0 = .ok (.aload_n 0, 1) := by decide +kernel
theorem dX2_weigh_1 : decode cX2_weigh 1 = .ok (.lconst 1, 1) := by decide +kernel
theorem dX2_weigh_2 : decode cX2_weigh 2 = .ok (.putfield 29, 3) := by decide +kernel
theorem dX2_weigh_5 : decode cX2_weigh 5 = .ok (.iconst 0, 1) := by decide +kernel
theorem dX2_weigh_6 : decode cX2_weigh 6 = .ok (.istore_n 1, 1) := by decide +kernel
theorem dX2_weigh_7 : decode cX2_weigh 7 = .ok (.iload_n 1, 1) := by decide +kernel
theorem dX2_weigh_8 : decode cX2_weigh 8 = .ok (.bipush 6, 2) := by decide +kernel
theorem dX2_weigh_10 : decode cX2_weigh 10 = .ok (.if_icmp .ge 39, 3) := by decide +kernel
theorem dX2_weigh_13 : decode cX2_weigh 13 = .ok (.aload_n 0, 1) := by decide +kernel
theorem dX2_weigh_14 : decode cX2_weigh 14 = .ok (.dup, 1) := by decide +kernel
theorem dX2_weigh_15 : decode cX2_weigh 15 = .ok (.getfield 29, 3) := by decide +kernel
theorem dX2_weigh_18 : decode cX2_weigh 18 = .ok (.aload_n 0, 1) := by decide +kernel
theorem dX2_weigh_19 : decode cX2_weigh 19 = .ok (.iload_n 1, 1) := by decide +kernel
theorem dX2_weigh_20 : decode cX2_weigh 20 = .ok (.invokevirtual 37, 3) := by decide +kernel
theorem dX2_weigh_23 : decode cX2_weigh 23 = .ok (.ifCond .eq 15, 3) := by decide +kernel
theorem dX2_weigh_26 : decode cX2_weigh 26 = .ok (.aload_n 0, 1) := by decide +kernel
theorem dX2_weigh_27 : decode cX2_weigh 27 = .ok (.getfield 17, 3) := by decide +kernel
theorem dX2_weigh_30 : decode cX2_weigh 30 = .ok (.iload_n 1, 1) := by decide +kernel
theorem dX2_weigh_31 : decode cX2_weigh 31 = .ok (.aaload, 1) := by decide +kernel
theorem dX2_weigh_32 : decode cX2_weigh 32 = .ok (.getfield 41, 3) := by decide +kernel
theorem dX2_weigh_35 : decode cX2_weigh 35 = .ok (.goto 4, 3) := by decide +kernel
theorem dX2_weigh_38 : decode cX2_weigh 38 = .ok (.lconst 1, 1) := by decide +kernel
theorem dX2_weigh_39 : decode cX2_weigh 39 = .ok (.lmul, 1) := by decide +kernel
theorem dX2_weigh_40 : decode cX2_weigh 40 = .ok (.putfield 29, 3) := by decide +kernel
theorem dX2_weigh_43 : decode cX2_weigh 43 = .ok (.iinc 1 1, 3) := by decide +kernel
theorem dX2_weigh_46 : decode cX2_weigh 46 = .ok (.goto (-39), 3) := by decide +kernel
theorem dX2_weigh_49 : decode cX2_weigh 49 = .ok (.aload_n 0, 1) := by decide +kernel
theorem dX2_weigh_50 : decode cX2_weigh 50 = .ok (.lconst 0, 1) := by decide +kernel
theorem dX2_weigh_51 : decode cX2_weigh 51 = .ok (.putfield 33, 3) := by decide +kernel
theorem dX2_weigh_54 : decode cX2_weigh 54 = .ok (.iconst 0, 1) := by decide +kernel
theorem dX2_weigh_55 : decode cX2_weigh 55 = .ok (.istore_n 1, 1) := by decide +kernel
theorem dX2_weigh_56 : decode cX2_weigh 56 = .ok (.iload_n 1, 1) := by decide +kernel
theorem dX2_weigh_57 : decode cX2_weigh 57 = .ok (.bipush 6, 2) := by decide +kernel
theorem dX2_weigh_59 : decode cX2_weigh 59 = .ok (.if_icmp .ge 59, 3) := by decide +kernel
theorem dX2_weigh_62 : decode cX2_weigh 62 = .ok (.aload_n 0, 1) := by decide +kernel
theorem dX2_weigh_63 : decode cX2_weigh 63 = .ok (.getfield 25, 3) := by decide +kernel
theorem dX2_weigh_66 : decode cX2_weigh 66 = .ok (.iload_n 1, 1) := by decide +kernel
theorem dX2_weigh_67 : decode cX2_weigh 67 = .ok (.aload_n 0, 1) := by decide +kernel
theorem dX2_weigh_68 : decode cX2_weigh 68 = .ok (.iload_n 1, 1) := by decide +kernel
theorem dX2_weigh_69 : decode cX2_weigh 69 = .ok (.invokevirtual 37, 3) := by decide +kernel
theorem dX2_weigh_72 : decode cX2_weigh 72 = .ok (.ifCond .eq 23, 3) := by decide +kernel
theorem dX2_weigh_75 : decode cX2_weigh 75 = .ok (.aload_n 0, 1) := by decide +kernel
theorem dX2_weigh_76 : decode cX2_weigh 76 = .ok (.getfield 21, 3) := by decide +kernel
theorem dX2_weigh_79 : decode cX2_weigh 79 = .ok (.iload_n 1, 1) := by decide +kernel
theorem dX2_weigh_80 : decode cX2_weigh 80 = .ok (.iaload, 1) := by decide +kernel
theorem dX2_weigh_81 : decode cX2_weigh 81 = .ok (.i2l, 1) := by decide +kernel
theorem dX2_weigh_82 : decode cX2_weigh 82 = .ok (.aload_n 0, 1) := by decide +kernel
theorem dX2_weigh_83 : decode cX2_weigh 83 = .ok (.iload_n 1, 1) := by decide +kernel
theorem dX2_weigh_84 : decode cX2_weigh 84 = .ok (.aload_n 0, 1) := by decide +kernel
theorem dX2_weigh_85 : decode cX2_weigh 85 = .ok (.getfield 29, 3) := by decide +kernel
theorem dX2_weigh_88 : decode cX2_weigh 88 = .ok (.invokevirtual 44, 3) := by decide +kernel
theorem dX2_weigh_91 : decode cX2_weigh 91 = .ok (.lmul, 1) := by decide +kernel
theorem dX2_weigh_92 : decode cX2_weigh 92 = .ok (.goto 4, 3) := by decide +kernel
theorem dX2_weigh_95 : decode cX2_weigh 95 = .ok (.lconst 0, 1) := by decide +kernel
theorem dX2_weigh_96 : decode cX2_weigh 96 = .ok (.lastore, 1) := by decide +kernel
theorem dX2_weigh_97 : decode cX2_weigh 97 = .ok (.aload_n 0, 1) := by decide +kernel
theorem dX2_weigh_98 : decode cX2_weigh 98 = .ok (.dup, 1) := by decide +kernel
theorem dX2_weigh_99 : decode cX2_weigh 99 = .ok (.getfield 33, 3) := by decide +kernel
theorem dX2_weigh_102 : decode cX2_weigh 102 = .ok (.aload_n 0, 1) := by decide +kernel
theorem dX2_weigh_103 : decode cX2_weigh 103 = .ok (.getfield 25, 3) := by decide +kernel
theorem dX2_weigh_106 : decode cX2_weigh 106 = .ok (.iload_n 1, 1) := by decide +kernel
theorem dX2_weigh_107 : decode cX2_weigh 107 = .ok (.laload, 1) := by decide +kernel
theorem dX2_weigh_108 : decode cX2_weigh 108 = .ok (.ladd, 1) := by decide +kernel
theorem dX2_weigh_109 : decode cX2_weigh 109 = .ok (.putfield 33, 3) := by decide +kernel
theorem dX2_weigh_112 : decode cX2_weigh 112 = .ok (.iinc 1 1, 3) := by decide +kernel
theorem dX2_weigh_115 : decode cX2_weigh 115 = .ok (.goto (-59), 3) := by decide +kernel
theorem dX2_weigh_118 : decode cX2_weigh 118 = .ok (.return_, 1) := by decide +kernel
theorem dX2_costOf_0 : decode cX2_costOf 0 = .ok (.iload_n 1, 1) := by decide +kernel
theorem dX2_costOf_1 : decode cX2_costOf 1 = .ok (.ifCond .ne 7, 3) := by decide +kernel
theorem dX2_costOf_4 : decode cX2_costOf 4 = .ok (.lconst 0, 1) := by decide +kernel
theorem dX2_costOf_5 : decode cX2_costOf 5 = .ok (.goto 18, 3) := by decide +kernel
theorem dX2_costOf_8 : decode cX2_costOf 8 = .ok (.aload_n 0, 1) := by decide +kernel
theorem dX2_costOf_9 : decode cX2_costOf 9 = .ok (.getfield 29, 3) := by decide +kernel
theorem dX2_costOf_12 : decode cX2_costOf 12 = .ok (.lload_n 2, 1) := by decide +kernel
theorem dX2_costOf_13 : decode cX2_costOf 13 = .ok (.iload 4, 2) := by decide +kernel
theorem dX2_costOf_15 : decode cX2_costOf 15 = .ok (.iload_n 1, 1) := by decide +kernel
theorem dX2_costOf_16 : decode cX2_costOf 16 = .ok (.invokestatic 48, 3) := by decide +kernel
theorem dX2_costOf_19 : decode cX2_costOf 19 = .ok (.imul, 1) := by decide +kernel
theorem dX2_costOf_20 : decode cX2_costOf 20 = .ok (.i2l, 1) := by decide +kernel
theorem dX2_costOf_21 : decode cX2_costOf 21 = .ok (.ladd, 1) := by decide +kernel
theorem dX2_costOf_22 : decode cX2_costOf 22 = .ok (.lmul, 1) := by decide +kernel
theorem dX2_costOf_23 : decode cX2_costOf 23 = .ok (.lstore 5, 2) := by decide +kernel
theorem dX2_costOf_25 : decode cX2_costOf 25 = .ok (.iconst 0, 1) := by decide +kernel
theorem dX2_costOf_26 : decode cX2_costOf 26 = .ok (.istore 7, 2) := by decide +kernel
theorem dX2_costOf_28 : decode cX2_costOf 28 = .ok (.iload 7, 2) := by decide +kernel
theorem dX2_costOf_30 : decode cX2_costOf 30 = .ok (.bipush 6, 2) := by decide +kernel
theorem dX2_costOf_32 : decode cX2_costOf 32 = .ok (.if_icmp .ge 30, 3) := by decide +kernel
theorem dX2_costOf_35 : decode cX2_costOf 35 = .ok (.iload_n 1, 1) := by decide +kernel
theorem dX2_costOf_36 : decode cX2_costOf 36 = .ok (.iload 7, 2) := by decide +kernel
theorem dX2_costOf_38 : decode cX2_costOf 38 = .ok (.ishr, 1) := by decide +kernel
theorem dX2_costOf_39 : decode cX2_costOf 39 = .ok (.iconst 1, 1) := by decide +kernel
theorem dX2_costOf_40 : decode cX2_costOf 40 = .ok (.iand, 1) := by decide +kernel
theorem dX2_costOf_41 : decode cX2_costOf 41 = .ok (.ifCond .ne 15, 3) := by decide +kernel
theorem dX2_costOf_44 : decode cX2_costOf 44 = .ok (.lload 5, 2) := by decide +kernel
theorem dX2_costOf_46 : decode cX2_costOf 46 = .ok (.aload_n 0, 1) := by decide +kernel
theorem dX2_costOf_47 : decode cX2_costOf 47 = .ok (.getfield 25, 3) := by decide +kernel
theorem dX2_costOf_50 : decode cX2_costOf 50 = .ok (.iload 7, 2) := by decide +kernel
theorem dX2_costOf_52 : decode cX2_costOf 52 = .ok (.laload, 1) := by decide +kernel
theorem dX2_costOf_53 : decode cX2_costOf 53 = .ok (.ladd, 1) := by decide +kernel
theorem dX2_costOf_54 : decode cX2_costOf 54 = .ok (.lstore 5, 2) := by decide +kernel
theorem dX2_costOf_56 : decode cX2_costOf 56 = .ok (.iinc 7 1, 3) := by decide +kernel
theorem dX2_costOf_59 : decode cX2_costOf 59 = .ok (.goto (-31), 3) := by decide +kernel
theorem dX2_costOf_62 : decode cX2_costOf 62 = .ok (.lload 5, 2) := by decide +kernel
theorem dX2_costOf_64 : decode cX2_costOf 64 = .ok (.lreturn, 1) := by decide +kernel
theorem dX2_bestLooks_0 : decode cX2_bestLooks 0 = .ok (.iconst 0, 1) := by decide +kernel
theorem dX2_bestLooks_1 : decode cX2_bestLooks 1 = .ok (.istore 4, 2) := by decide +kernel
theorem dX2_bestLooks_3 : decode cX2_bestLooks 3 = .ok (.aload_n 0, 1) := by decide +kernel
theorem dX2_bestLooks_4 : decode cX2_bestLooks 4 = .ok (.getfield 33, 3) := by decide +kernel
theorem dX2_bestLooks_7 : decode cX2_bestLooks 7 = .ok (.lstore 5, 2) := by decide +kernel
theorem dX2_bestLooks_9 : decode cX2_bestLooks 9 = .ok (.iconst 1, 1) := by decide +kernel
theorem dX2_bestLooks_10 : decode cX2_bestLooks 10 = .ok (.istore 7, 2) := by decide +kernel
theorem dX2_bestLooks_12 : decode cX2_bestLooks 12 = .ok (.iload 7, 2) := by decide +kernel
theorem dX2_bestLooks_14 : decode cX2_bestLooks 14 = .ok (.bipush 63, 2) := by decide +kernel
theorem dX2_bestLooks_16 : decode cX2_bestLooks 16 = .ok (.if_icmp .gt 49, 3) := by decide +kernel
theorem dX2_bestLooks_19 : decode cX2_bestLooks 19 = .ok (.iload 7, 2) := by decide +kernel
theorem dX2_bestLooks_21 : decode cX2_bestLooks 21 = .ok (.aload_n 0, 1) := by decide +kernel
theorem dX2_bestLooks_22 : decode cX2_bestLooks 22 = .ok (.getfield 9, 3) := by decide +kernel
theorem dX2_bestLooks_25 : decode cX2_bestLooks 25 = .ok (.iconst (-1), 1) := by decide +kernel
theorem dX2_bestLooks_26 : decode cX2_bestLooks 26 = .ok (.ixor, 1) := by decide +kernel
theorem dX2_bestLooks_27 : decode cX2_bestLooks 27 = .ok (.iand, 1) := by decide +kernel
theorem dX2_bestLooks_28 : decode cX2_bestLooks 28 = .ok (.ifCond .ne 31, 3) := by decide +kernel
theorem dX2_bestLooks_31 : decode cX2_bestLooks 31 = .ok (.aload_n 0, 1) := by decide +kernel
theorem dX2_bestLooks_32 : decode cX2_bestLooks 32 = .ok (.iload 7, 2) := by decide +kernel
theorem dX2_bestLooks_34 : decode cX2_bestLooks 34 = .ok (.lload_n 1, 1) := by decide +kernel
theorem dX2_bestLooks_35 : decode cX2_bestLooks 35 = .ok (.iload_n 3, 1) := by decide +kernel
theorem dX2_bestLooks_36 : decode cX2_bestLooks 36 = .ok (.invokevirtual 54, 3) := by decide +kernel
theorem dX2_bestLooks_39 : decode cX2_bestLooks 39 = .ok (.lload 5, 2) := by decide +kernel
theorem dX2_bestLooks_41 : decode cX2_bestLooks 41 = .ok (.lcmp, 1) := by decide +kernel
theorem dX2_bestLooks_42 : decode cX2_bestLooks 42 = .ok (.ifCond .ge 17, 3) := by decide +kernel
theorem dX2_bestLooks_45 : decode cX2_bestLooks 45 = .ok (.iload 7, 2) := by decide +kernel
theorem dX2_bestLooks_47 : decode cX2_bestLooks 47 = .ok (.istore 4, 2) := by decide +kernel
theorem dX2_bestLooks_49 : decode cX2_bestLooks 49 = .ok (.aload_n 0, 1) := by decide +kernel
theorem dX2_bestLooks_50 : decode cX2_bestLooks 50 = .ok (.iload 7, 2) := by decide +kernel
theorem dX2_bestLooks_52 : decode cX2_bestLooks 52 = .ok (.lload_n 1, 1) := by decide +kernel
theorem dX2_bestLooks_53 : decode cX2_bestLooks 53 = .ok (.iload_n 3, 1) := by decide +kernel
theorem dX2_bestLooks_54 : decode cX2_bestLooks 54 = .ok (.invokevirtual 54, 3) := by decide +kernel
theorem dX2_bestLooks_57 : decode cX2_bestLooks 57 = .ok (.lstore 5, 2) := by decide +kernel
theorem dX2_bestLooks_59 : decode cX2_bestLooks 59 = .ok (.iinc 7 1, 3) := by decide +kernel
theorem dX2_bestLooks_62 : decode cX2_bestLooks 62 = .ok (.goto (-50), 3) := by decide +kernel
theorem dX2_bestLooks_65 : decode cX2_bestLooks 65 = .ok (.iload 4, 2) := by decide +kernel
theorem dX2_bestLooks_67 : decode cX2_bestLooks 67 = .ok (.ireturn, 1) := by decide +kernel
theorem dX2_worst_0 : decode cX2_worst 0 = .ok (.iconst (-1), 1) := by decide +kernel
theorem dX2_worst_1 : decode cX2_worst 1 = .ok (.istore_n 1, 1) := by decide +kernel
theorem dX2_worst_2 : decode cX2_worst 2 = .ok (.iconst 0, 1) := by decide +kernel
theorem dX2_worst_3 : decode cX2_worst 3 = .ok (.istore_n 2, 1) := by decide +kernel
theorem dX2_worst_4 : decode cX2_worst 4 = .ok (.iload_n 2, 1) := by decide +kernel
theorem dX2_worst_5 : decode cX2_worst 5 = .ok (.bipush 6, 2) := by decide +kernel
theorem dX2_worst_7 : decode cX2_worst 7 = .ok (.if_icmp .ge 58, 3) := by decide +kernel
theorem dX2_worst_10 : decode cX2_worst 10 = .ok (.aload_n 0, 1) := by decide +kernel
theorem dX2_worst_11 : decode cX2_worst 11 = .ok (.iload_n 2, 1) := by decide +kernel
theorem dX2_worst_12 : decode cX2_worst 12 = .ok (.invokevirtual 37, 3) := by decide +kernel
theorem dX2_worst_15 : decode cX2_worst 15 = .ok (.ifCond .eq 44, 3) := by decide +kernel
theorem dX2_worst_18 : decode cX2_worst 18 = .ok (.iload_n 1, 1) := by decide +kernel
theorem dX2_worst_19 : decode cX2_worst 19 = .ok (.ifCond .lt 38, 3) := by decide +kernel
theorem dX2_worst_22 : decode cX2_worst 22 = .ok (.aload_n 0, 1) := by decide +kernel
theorem dX2_worst_23 : decode cX2_worst 23 = .ok (.getfield 17, 3) := by decide +kernel
theorem dX2_worst_26 : decode cX2_worst 26 = .ok (.iload_n 2, 1) := by decide +kernel
theorem dX2_worst_27 : decode cX2_worst 27 = .ok (.aaload, 1) := by decide +kernel
theorem dX2_worst_28 : decode cX2_worst 28 = .ok (.invokevirtual 58, 3) := by decide +kernel
theorem dX2_worst_31 : decode cX2_worst 31 = .ok (.aload_n 0, 1) := by decide +kernel
theorem dX2_worst_32 : decode cX2_worst 32 = .ok (.getfield 21, 3) := by decide +kernel
theorem dX2_worst_35 : decode cX2_worst 35 = .ok (.iload_n 2, 1) := by decide +kernel
theorem dX2_worst_36 : decode cX2_worst 36 = .ok (.iaload, 1) := by decide +kernel
theorem dX2_worst_37 : decode cX2_worst 37 = .ok (.imul, 1) := by decide +kernel
theorem dX2_worst_38 : decode cX2_worst 38 = .ok (.aload_n 0, 1) := by decide +kernel
theorem dX2_worst_39 : decode cX2_worst 39 = .ok (.getfield 17, 3) := by decide +kernel
theorem dX2_worst_42 : decode cX2_worst 42 = .ok (.iload_n 1, 1) := by decide +kernel
theorem dX2_worst_43 : decode cX2_worst 43 = .ok (.aaload, 1) := by decide +kernel
theorem dX2_worst_44 : decode cX2_worst 44 = .ok (.invokevirtual 58, 3) := by decide +kernel
theorem dX2_worst_47 : decode cX2_worst 47 = .ok (.aload_n 0, 1) := by decide +kernel
theorem dX2_worst_48 : decode cX2_worst 48 = .ok (.getfield 21, 3) := by decide +kernel
theorem dX2_worst_51 : decode cX2_worst 51 = .ok (.iload_n 1, 1) := by decide +kernel
theorem dX2_worst_52 : decode cX2_worst 52 = .ok (.iaload, 1) := by decide +kernel
theorem dX2_worst_53 : decode cX2_worst 53 = .ok (.imul, 1) := by decide +kernel
theorem dX2_worst_54 : decode cX2_worst 54 = .ok (.if_icmp .le 5, 3) := by decide +kernel
theorem dX2_worst_57 : decode cX2_worst 57 = .ok (.iload_n 2, 1) := by decide +kernel
theorem dX2_worst_58 : decode cX2_worst 58 = .ok (.istore_n 1, 1) := by decide +kernel
theorem dX2_worst_59 : decode cX2_worst 59 = .ok (.iinc 2 1, 3) := by decide +kernel
theorem dX2_worst_62 : decode cX2_worst 62 = .ok (.goto (-58), 3) := by decide +kernel
theorem dX2_worst_65 : decode cX2_worst 65 = .ok (.iload_n 1, 1) := by decide +kernel
theorem dX2_worst_66 : decode cX2_worst 66 = .ok (.ireturn, 1) := by decide +kernel
theorem dX2_costOfRinging_0 : decode cX2_costOfRinging 0 = .ok (.lconst 1, 1) := by decide +kernel
theorem dX2_costOfRinging_1 : decode cX2_costOfRinging 1 = .ok (.lstore 6, 2) := by decide +kernel
theorem dX2_costOfRinging_3 : decode cX2_costOfRinging 3 = .ok (.iconst 0, 1) := by decide +kernel
theorem dX2_costOfRinging_4 : decode cX2_costOfRinging 4 = .ok (.istore 8, 2) := by decide +kernel
theorem dX2_costOfRinging_6 : decode cX2_costOfRinging 6 = .ok (.iload 8, 2) := by decide +kernel
theorem dX2_costOfRinging_8 : decode cX2_costOfRinging 8 = .ok (.bipush 6, 2) := by decide +kernel
theorem dX2_costOfRinging_10 : decode cX2_costOfRinging 10 = .ok (.if_icmp .ge 68, 3) := by decide +kernel
theorem dX2_costOfRinging_13 : decode cX2_costOfRinging 13 = .ok (.aload_n 0, 1) := by decide +kernel
theorem dX2_costOfRinging_14 : decode cX2_costOfRinging 14 = .ok (.iload 8, 2) := by decide +kernel
theorem dX2_costOfRinging_16 : decode cX2_costOfRinging 16 = .ok (.invokevirtual 37, 3) := by decide +kernel
theorem dX2_costOfRinging_19 : decode cX2_costOfRinging 19 = .ok (.ifCond .eq 53, 3) := by decide +kernel
theorem dX2_costOfRinging_22 : decode cX2_costOfRinging 22 = .ok (.lload 6, 2) := by decide +kernel
theorem dX2_costOfRinging_24 : decode cX2_costOfRinging 24 = .ok (.iload 5, 2) := by decide +kernel
theorem dX2_costOfRinging_26 : decode cX2_costOfRinging 26 = .ok (.iload 8, 2) := by decide +kernel
theorem dX2_costOfRinging_28 : decode cX2_costOfRinging 28 = .ok (.ishr, 1) := by decide +kernel
theorem dX2_costOfRinging_29 : decode cX2_costOfRinging 29 = .ok (.iconst 1, 1) := by decide +kernel
theorem dX2_costOfRinging_30 : decode cX2_costOfRinging 30 = .ok (.iand, 1) := by decide +kernel
theorem dX2_costOfRinging_31 : decode cX2_costOfRinging 31 = .ok (.iconst 1, 1) := by decide +kernel
theorem dX2_costOfRinging_32 : decode cX2_costOfRinging 32 = .ok (.if_icmp .ne 27, 3) := by decide +kernel
theorem dX2_costOfRinging_35 : decode cX2_costOfRinging 35 = .ok (.aload_n 0, 1) := by decide +kernel
theorem dX2_costOfRinging_36 : decode cX2_costOfRinging 36 = .ok (.getfield 17, 3) := by decide +kernel
theorem dX2_costOfRinging_39 : decode cX2_costOfRinging 39 = .ok (.iload 8, 2) := by decide +kernel
theorem dX2_costOfRinging_41 : decode cX2_costOfRinging 41 = .ok (.aaload, 1) := by decide +kernel
theorem dX2_costOfRinging_42 : decode cX2_costOfRinging 42 = .ok (.getfield 41, 3) := by decide +kernel
theorem dX2_costOfRinging_45 : decode cX2_costOfRinging 45 = .ok (.aload_n 0, 1) := by decide +kernel
theorem dX2_costOfRinging_46 : decode cX2_costOfRinging 46 = .ok (.getfield 17, 3) := by decide +kernel
theorem dX2_costOfRinging_49 : decode cX2_costOfRinging 49 = .ok (.iload 8, 2) := by decide +kernel
theorem dX2_costOfRinging_51 : decode cX2_costOfRinging 51 = .ok (.aaload, 1) := by decide +kernel
theorem dX2_costOfRinging_52 : decode cX2_costOfRinging 52 = .ok (.getfield 62, 3) := by decide +kernel
theorem dX2_costOfRinging_55 : decode cX2_costOfRinging 55 = .ok (.lsub, 1) := by decide +kernel
theorem dX2_costOfRinging_56 : decode cX2_costOfRinging 56 = .ok (.goto 13, 3) := by decide +kernel
theorem dX2_costOfRinging_59 : decode cX2_costOfRinging 59 = .ok (.aload_n 0, 1) := by decide +kernel
theorem dX2_costOfRinging_60 : decode cX2_costOfRinging 60 = .ok (.getfield 17, 3) := by decide +kernel
theorem dX2_costOfRinging_63 : decode cX2_costOfRinging 63 = .ok (.iload 8, 2) := by decide +kernel
theorem dX2_costOfRinging_65 : decode cX2_costOfRinging 65 = .ok (.aaload, 1) := by decide +kernel
theorem dX2_costOfRinging_66 : decode cX2_costOfRinging 66 = .ok (.getfield 41, 3) := by decide +kernel
theorem dX2_costOfRinging_69 : decode cX2_costOfRinging 69 = .ok (.lmul, 1) := by decide +kernel
theorem dX2_costOfRinging_70 : decode cX2_costOfRinging 70 = .ok (.lstore 6, 2) := by decide +kernel
theorem dX2_costOfRinging_72 : decode cX2_costOfRinging 72 = .ok (.iinc 8 1, 3) := by decide +kernel
theorem dX2_costOfRinging_75 : decode cX2_costOfRinging 75 = .ok (.goto (-69), 3) := by decide +kernel
theorem dX2_costOfRinging_78 : decode cX2_costOfRinging 78 = .ok (.lload_n 1, 1) := by decide +kernel
theorem dX2_costOfRinging_79 : decode cX2_costOfRinging 79 = .ok (.aload_n 0, 1) := by decide +kernel
theorem dX2_costOfRinging_80 : decode cX2_costOfRinging 80 = .ok (.getfield 29, 3) := by decide +kernel
theorem dX2_costOfRinging_83 : decode cX2_costOfRinging 83 = .ok (.lload 6, 2) := by decide +kernel
theorem dX2_costOfRinging_85 : decode cX2_costOfRinging 85 = .ok (.lsub, 1) := by decide +kernel
theorem dX2_costOfRinging_86 : decode cX2_costOfRinging 86 = .ok (.lmul, 1) := by decide +kernel
theorem dX2_costOfRinging_87 : decode cX2_costOfRinging 87 = .ok (.lstore 8, 2) := by decide +kernel
theorem dX2_costOfRinging_89 : decode cX2_costOfRinging 89 = .ok (.iconst 0, 1) := by decide +kernel
theorem dX2_costOfRinging_90 : decode cX2_costOfRinging 90 = .ok (.istore 10, 2) := by decide +kernel
theorem dX2_costOfRinging_92 : decode cX2_costOfRinging 92 = .ok (.iload 10, 2) := by decide +kernel
theorem dX2_costOfRinging_94 : decode cX2_costOfRinging 94 = .ok (.bipush 6, 2) := by decide +kernel
theorem dX2_costOfRinging_96 : decode cX2_costOfRinging 96 = .ok (.if_icmp .ge 50, 3) := by decide +kernel
theorem dX2_costOfRinging_99 : decode cX2_costOfRinging 99 = .ok (.aload_n 0, 1) := by decide +kernel
theorem dX2_costOfRinging_100 : decode cX2_costOfRinging 100 = .ok (.iload 10, 2) := by decide +kernel
theorem dX2_costOfRinging_102 : decode cX2_costOfRinging 102 = .ok (.invokevirtual 37, 3) := by decide +kernel
theorem dX2_costOfRinging_105 : decode cX2_costOfRinging 105 = .ok (.ifCond .eq 35, 3) := by decide +kernel
theorem dX2_costOfRinging_108 : decode cX2_costOfRinging 108 = .ok (.iload 5, 2) := by decide +kernel
theorem dX2_costOfRinging_110 : decode cX2_costOfRinging 110 = .ok (.iload 10, 2) := by decide +kernel
theorem dX2_costOfRinging_112 : decode cX2_costOfRinging 112 = .ok (.ishr, 1) := by decide +kernel
theorem dX2_costOfRinging_113 : decode cX2_costOfRinging 113 = .ok (.iconst 1, 1) := by decide +kernel
theorem dX2_costOfRinging_114 : decode cX2_costOfRinging 114 = .ok (.iand, 1) := by decide +kernel
theorem dX2_costOfRinging_115 : decode cX2_costOfRinging 115 = .ok (.ifCond .ne 25, 3) := by decide +kernel
theorem dX2_costOfRinging_118 : decode cX2_costOfRinging 118 = .ok (.lload 8, 2) := by decide +kernel
theorem dX2_costOfRinging_120 : decode cX2_costOfRinging 120 = .ok (.aload_n 0, 1) := by decide +kernel
theorem dX2_costOfRinging_121 : decode cX2_costOfRinging 121 = .ok (.getfield 21, 3) := by decide +kernel
theorem dX2_costOfRinging_124 : decode cX2_costOfRinging 124 = .ok (.iload 10, 2) := by decide +kernel
theorem dX2_costOfRinging_126 : decode cX2_costOfRinging 126 = .ok (.iaload, 1) := by decide +kernel
theorem dX2_costOfRinging_127 : decode cX2_costOfRinging 127 = .ok (.i2l, 1) := by decide +kernel
theorem dX2_costOfRinging_128 : decode cX2_costOfRinging 128 = .ok (.aload_n 0, 1) := by decide +kernel
theorem dX2_costOfRinging_129 : decode cX2_costOfRinging 129 = .ok (.iload 10, 2) := by decide +kernel
theorem dX2_costOfRinging_131 : decode cX2_costOfRinging 131 = .ok (.lload 6, 2) := by decide +kernel
theorem dX2_costOfRinging_133 : decode cX2_costOfRinging 133 = .ok (.invokevirtual 44, 3) := by decide +kernel
theorem dX2_costOfRinging_136 : decode cX2_costOfRinging 136 = .ok (.lmul, 1) := by decide +kernel
theorem dX2_costOfRinging_137 : decode cX2_costOfRinging 137 = .ok (.ladd, 1) := by decide +kernel
theorem dX2_costOfRinging_138 : decode cX2_costOfRinging 138 = .ok (.lstore 8, 2) := by decide +kernel
theorem dX2_costOfRinging_140 : decode cX2_costOfRinging 140 = .ok (.iinc 10 1, 3) := by decide +kernel
theorem dX2_costOfRinging_143 : decode cX2_costOfRinging 143 = .ok (.goto (-51), 3) := by decide +kernel
theorem dX2_costOfRinging_146 : decode cX2_costOfRinging 146 = .ok (.ldc2_w 65, 3) := by decide +kernel
theorem dX2_costOfRinging_149 : decode cX2_costOfRinging 149 = .ok (.aload_n 0, 1) := by decide +kernel
theorem dX2_costOfRinging_150 : decode cX2_costOfRinging 150 = .ok (.getfield 29, 3) := by decide +kernel
theorem dX2_costOfRinging_153 : decode cX2_costOfRinging 153 = .ok (.lmul, 1) := by decide +kernel
theorem dX2_costOfRinging_154 : decode cX2_costOfRinging 154 = .ok (.iload_n 3, 1) := by decide +kernel
theorem dX2_costOfRinging_155 : decode cX2_costOfRinging 155 = .ok (.i2l, 1) := by decide +kernel
theorem dX2_costOfRinging_156 : decode cX2_costOfRinging 156 = .ok (.lmul, 1) := by decide +kernel
theorem dX2_costOfRinging_157 : decode cX2_costOfRinging 157 = .ok (.iload 4, 2) := by decide +kernel
theorem dX2_costOfRinging_159 : decode cX2_costOfRinging 159 = .ok (.i2l, 1) := by decide +kernel
theorem dX2_costOfRinging_160 : decode cX2_costOfRinging 160 = .ok (.lload 8, 2) := by decide +kernel
theorem dX2_costOfRinging_162 : decode cX2_costOfRinging 162 = .ok (.lmul, 1) := by decide +kernel
theorem dX2_costOfRinging_163 : decode cX2_costOfRinging 163 = .ok (.ladd, 1) := by decide +kernel
theorem dX2_costOfRinging_164 : decode cX2_costOfRinging 164 = .ok (.bipush 12, 2) := by decide +kernel
theorem dX2_costOfRinging_166 : decode cX2_costOfRinging 166 = .ok (.iload 4, 2) := by decide +kernel
theorem dX2_costOfRinging_168 : decode cX2_costOfRinging 168 = .ok (.isub, 1) := by decide +kernel
theorem dX2_costOfRinging_169 : decode cX2_costOfRinging 169 = .ok (.i2l, 1) := by decide +kernel
theorem dX2_costOfRinging_170 : decode cX2_costOfRinging 170 = .ok (.aload_n 0, 1) := by decide +kernel
theorem dX2_costOfRinging_171 : decode cX2_costOfRinging 171 = .ok (.getfield 33, 3) := by decide +kernel
theorem dX2_costOfRinging_174 : decode cX2_costOfRinging 174 = .ok (.lload_n 1, 1) := by decide +kernel
theorem dX2_costOfRinging_175 : decode cX2_costOfRinging 175 = .ok (.aload_n 0, 1) := by decide +kernel
theorem dX2_costOfRinging_176 : decode cX2_costOfRinging 176 = .ok (.getfield 29, 3) := by decide +kernel
theorem dX2_costOfRinging_179 : decode cX2_costOfRinging 179 = .ok (.lmul, 1) := by decide +kernel
theorem dX2_costOfRinging_180 : decode cX2_costOfRinging 180 = .ok (.invokestatic 67, 3) := by decide +kernel
theorem dX2_costOfRinging_183 : decode cX2_costOfRinging 183 = .ok (.lmul, 1) := by decide +kernel
theorem dX2_costOfRinging_184 : decode cX2_costOfRinging 184 = .ok (.ladd, 1) := by decide +kernel
theorem dX2_costOfRinging_185 : decode cX2_costOfRinging 185 = .ok (.lreturn, 1) := by decide +kernel
theorem dX2_bestSeen_0 : decode cX2_bestSeen 0 = .ok (.iconst (-1), 1) := by decide +kernel
theorem dX2_bestSeen_1 : decode cX2_bestSeen 1 = .ok (.istore_n 3, 1) := by decide +kernel
theorem dX2_bestSeen_2 : decode cX2_bestSeen 2 = .ok (.iconst 0, 1) := by decide +kernel
theorem dX2_bestSeen_3 : decode cX2_bestSeen 3 = .ok (.istore 4, 2) := by decide +kernel
theorem dX2_bestSeen_5 : decode cX2_bestSeen 5 = .ok (.iload 4, 2) := by decide +kernel
theorem dX2_bestSeen_7 : decode cX2_bestSeen 7 = .ok (.bipush 6, 2) := by decide +kernel
theorem dX2_bestSeen_9 : decode cX2_bestSeen 9 = .ok (.if_icmp .ge 42, 3) := by decide +kernel
theorem dX2_bestSeen_12 : decode cX2_bestSeen 12 = .ok (.aload_n 0, 1) := by decide +kernel
theorem dX2_bestSeen_13 : decode cX2_bestSeen 13 = .ok (.iload 4, 2) := by decide +kernel
theorem dX2_bestSeen_15 : decode cX2_bestSeen 15 = .ok (.invokevirtual 37, 3) := by decide +kernel
theorem dX2_bestSeen_18 : decode cX2_bestSeen 18 = .ok (.ifCond .eq 27, 3) := by decide +kernel
theorem dX2_bestSeen_21 : decode cX2_bestSeen 21 = .ok (.iload_n 3, 1) := by decide +kernel
theorem dX2_bestSeen_22 : decode cX2_bestSeen 22 = .ok (.ifCond .lt 20, 3) := by decide +kernel
theorem dX2_bestSeen_25 : decode cX2_bestSeen 25 = .ok (.aload_n 0, 1) := by decide +kernel
theorem dX2_bestSeen_26 : decode cX2_bestSeen 26 = .ok (.iload 4, 2) := by decide +kernel
theorem dX2_bestSeen_28 : decode cX2_bestSeen 28 = .ok (.lload_n 1, 1) := by decide +kernel
theorem dX2_bestSeen_29 : decode cX2_bestSeen 29 = .ok (.invokevirtual 73, 3) := by decide +kernel
theorem dX2_bestSeen_32 : decode cX2_bestSeen 32 = .ok (.aload_n 0, 1) := by decide +kernel
theorem dX2_bestSeen_33 : decode cX2_bestSeen 33 = .ok (.iload_n 3, 1) := by decide +kernel
theorem dX2_bestSeen_34 : decode cX2_bestSeen 34 = .ok (.lload_n 1, 1) := by decide +kernel
theorem dX2_bestSeen_35 : decode cX2_bestSeen 35 = .ok (.invokevirtual 73, 3) := by decide +kernel
theorem dX2_bestSeen_38 : decode cX2_bestSeen 38 = .ok (.lcmp, 1) := by decide +kernel
theorem dX2_bestSeen_39 : decode cX2_bestSeen 39 = .ok (.ifCond .le 6, 3) := by decide +kernel
theorem dX2_bestSeen_42 : decode cX2_bestSeen 42 = .ok (.iload 4, 2) := by decide +kernel
theorem dX2_bestSeen_44 : decode cX2_bestSeen 44 = .ok (.istore_n 3, 1) := by decide +kernel
theorem dX2_bestSeen_45 : decode cX2_bestSeen 45 = .ok (.iinc 4 1, 3) := by decide +kernel
theorem dX2_bestSeen_48 : decode cX2_bestSeen 48 = .ok (.goto (-43), 3) := by decide +kernel
theorem dX2_bestSeen_51 : decode cX2_bestSeen 51 = .ok (.iload_n 3, 1) := by decide +kernel
theorem dX2_bestSeen_52 : decode cX2_bestSeen 52 = .ok (.ireturn, 1) := by decide +kernel
theorem dX2_savedBy_0 : decode cX2_savedBy 0 = .ok (.aload_n 0, 1) := by decide +kernel
theorem dX2_savedBy_1 : decode cX2_savedBy 1 = .ok (.getfield 17, 3) := by decide +kernel
theorem dX2_savedBy_4 : decode cX2_savedBy 4 = .ok (.iload_n 1, 1) := by decide +kernel
theorem dX2_savedBy_5 : decode cX2_savedBy 5 = .ok (.aaload, 1) := by decide +kernel
theorem dX2_savedBy_6 : decode cX2_savedBy 6 = .ok (.getfield 62, 3) := by decide +kernel
theorem dX2_savedBy_9 : decode cX2_savedBy 9 = .ok (.lstore 4, 2) := by decide +kernel
theorem dX2_savedBy_11 : decode cX2_savedBy 11 = .ok (.aload_n 0, 1) := by decide +kernel
theorem dX2_savedBy_12 : decode cX2_savedBy 12 = .ok (.getfield 17, 3) := by decide +kernel
theorem dX2_savedBy_15 : decode cX2_savedBy 15 = .ok (.iload_n 1, 1) := by decide +kernel
theorem dX2_savedBy_16 : decode cX2_savedBy 16 = .ok (.aaload, 1) := by decide +kernel
theorem dX2_savedBy_17 : decode cX2_savedBy 17 = .ok (.getfield 41, 3) := by decide +kernel
theorem dX2_savedBy_20 : decode cX2_savedBy 20 = .ok (.lstore 6, 2) := by decide +kernel
theorem dX2_savedBy_22 : decode cX2_savedBy 22 = .ok (.lload 6, 2) := by decide +kernel
theorem dX2_savedBy_24 : decode cX2_savedBy 24 = .ok (.lconst 0, 1) := by decide +kernel
theorem dX2_savedBy_25 : decode cX2_savedBy 25 = .ok (.lcmp, 1) := by decide +kernel
theorem dX2_savedBy_26 : decode cX2_savedBy 26 = .ok (.ifCond .gt 5, 3) := by decide +kernel
theorem dX2_savedBy_29 : decode cX2_savedBy 29 = .ok (.lconst 0, 1) := by decide +kernel
theorem dX2_savedBy_30 : decode cX2_savedBy 30 = .ok (.lreturn, 1) := by decide +kernel
theorem dX2_savedBy_31 : decode cX2_savedBy 31 = .ok (.aload_n 0, 1) := by decide +kernel
theorem dX2_savedBy_32 : decode cX2_savedBy 32 = .ok (.getfield 29, 3) := by decide +kernel
theorem dX2_savedBy_35 : decode cX2_savedBy 35 = .ok (.lload 6, 2) := by decide +kernel
theorem dX2_savedBy_37 : decode cX2_savedBy 37 = .ok (.ldiv, 1) := by decide +kernel
theorem dX2_savedBy_38 : decode cX2_savedBy 38 = .ok (.lstore 8, 2) := by decide +kernel
theorem dX2_savedBy_40 : decode cX2_savedBy 40 = .ok (.aload_n 0, 1) := by decide +kernel
theorem dX2_savedBy_41 : decode cX2_savedBy 41 = .ok (.getfield 33, 3) := by decide +kernel
theorem dX2_savedBy_44 : decode cX2_savedBy 44 = .ok (.aload_n 0, 1) := by decide +kernel
theorem dX2_savedBy_45 : decode cX2_savedBy 45 = .ok (.getfield 25, 3) := by decide +kernel
theorem dX2_savedBy_48 : decode cX2_savedBy 48 = .ok (.iload_n 1, 1) := by decide +kernel
theorem dX2_savedBy_49 : decode cX2_savedBy 49 = .ok (.laload, 1) := by decide +kernel
theorem dX2_savedBy_50 : decode cX2_savedBy 50 = .ok (.lsub, 1) := by decide +kernel
theorem dX2_savedBy_51 : decode cX2_savedBy 51 = .ok (.lload 6, 2) := by decide +kernel
theorem dX2_savedBy_53 : decode cX2_savedBy 53 = .ok (.ldiv, 1) := by decide +kernel
theorem dX2_savedBy_54 : decode cX2_savedBy 54 = .ok (.lstore 10, 2) := by decide +kernel
theorem dX2_savedBy_56 : decode cX2_savedBy 56 = .ok (.lload_n 2, 1) := by decide +kernel
theorem dX2_savedBy_57 : decode cX2_savedBy 57 = .ok (.lload 8, 2) := by decide +kernel
theorem dX2_savedBy_59 : decode cX2_savedBy 59 = .ok (.lmul, 1) := by decide +kernel
theorem dX2_savedBy_60 : decode cX2_savedBy 60 = .ok (.lload 10, 2) := by decide +kernel
theorem dX2_savedBy_62 : decode cX2_savedBy 62 = .ok (.aload_n 0, 1) := by decide +kernel
theorem dX2_savedBy_63 : decode cX2_savedBy 63 = .ok (.getfield 21, 3) := by decide +kernel
theorem dX2_savedBy_66 : decode cX2_savedBy 66 = .ok (.iload_n 1, 1) := by decide +kernel
theorem dX2_savedBy_67 : decode cX2_savedBy 67 = .ok (.iaload, 1) := by decide +kernel
theorem dX2_savedBy_68 : decode cX2_savedBy 68 = .ok (.i2l, 1) := by decide +kernel
theorem dX2_savedBy_69 : decode cX2_savedBy 69 = .ok (.lload 8, 2) := by decide +kernel
theorem dX2_savedBy_71 : decode cX2_savedBy 71 = .ok (.lmul, 1) := by decide +kernel
theorem dX2_savedBy_72 : decode cX2_savedBy 72 = .ok (.ladd, 1) := by decide +kernel
theorem dX2_savedBy_73 : decode cX2_savedBy 73 = .ok (.invokestatic 67, 3) := by decide +kernel
theorem dX2_savedBy_76 : decode cX2_savedBy 76 = .ok (.lstore 12, 2) := by decide +kernel
theorem dX2_savedBy_78 : decode cX2_savedBy 78 = .ok (.lload_n 2, 1) := by decide +kernel
theorem dX2_savedBy_79 : decode cX2_savedBy 79 = .ok (.lload 8, 2) := by decide +kernel
theorem dX2_savedBy_81 : decode cX2_savedBy 81 = .ok (.lmul, 1) := by decide +kernel
theorem dX2_savedBy_82 : decode cX2_savedBy 82 = .ok (.lload 10, 2) := by decide +kernel
theorem dX2_savedBy_84 : decode cX2_savedBy 84 = .ok (.invokestatic 67, 3) := by decide +kernel
theorem dX2_savedBy_87 : decode cX2_savedBy 87 = .ok (.lstore 14, 2) := by decide +kernel
theorem dX2_savedBy_89 : decode cX2_savedBy 89 = .ok (.aload_n 0, 1) := by decide +kernel
theorem dX2_savedBy_90 : decode cX2_savedBy 90 = .ok (.getfield 33, 3) := by decide +kernel
theorem dX2_savedBy_93 : decode cX2_savedBy 93 = .ok (.lload_n 2, 1) := by decide +kernel
theorem dX2_savedBy_94 : decode cX2_savedBy 94 = .ok (.aload_n 0, 1) := by decide +kernel
theorem dX2_savedBy_95 : decode cX2_savedBy 95 = .ok (.getfield 29, 3) := by decide +kernel
theorem dX2_savedBy_98 : decode cX2_savedBy 98 = .ok (.lmul, 1) := by decide +kernel
theorem dX2_savedBy_99 : decode cX2_savedBy 99 = .ok (.invokestatic 67, 3) := by decide +kernel
theorem dX2_savedBy_102 : decode cX2_savedBy 102 = .ok (.lload 4, 2) := by decide +kernel
theorem dX2_savedBy_104 : decode cX2_savedBy 104 = .ok (.lload 12, 2) := by decide +kernel
theorem dX2_savedBy_106 : decode cX2_savedBy 106 = .ok (.lmul, 1) := by decide +kernel
theorem dX2_savedBy_107 : decode cX2_savedBy 107 = .ok (.lsub, 1) := by decide +kernel
theorem dX2_savedBy_108 : decode cX2_savedBy 108 = .ok (.lload 6, 2) := by decide +kernel
theorem dX2_savedBy_110 : decode cX2_savedBy 110 = .ok (.lload 4, 2) := by decide +kernel
theorem dX2_savedBy_112 : decode cX2_savedBy 112 = .ok (.lsub, 1) := by decide +kernel
theorem dX2_savedBy_113 : decode cX2_savedBy 113 = .ok (.lload 14, 2) := by decide +kernel
theorem dX2_savedBy_115 : decode cX2_savedBy 115 = .ok (.lmul, 1) := by decide +kernel
theorem dX2_savedBy_116 : decode cX2_savedBy 116 = .ok (.lsub, 1) := by decide +kernel
theorem dX2_savedBy_117 : decode cX2_savedBy 117 = .ok (.lreturn, 1) := by decide +kernel
theorem dX2_chance_0 : decode cX2_chance 0 = .ok (.aload_n 0, 1) := by decide +kernel
theorem dX2_chance_1 : decode cX2_chance 1 = .ok (.getfield 17, 3) := by decide +kernel
theorem dX2_chance_4 : decode cX2_chance 4 = .ok (.iload_n 1, 1) := by decide +kernel
theorem dX2_chance_5 : decode cX2_chance 5 = .ok (.aaload, 1) := by decide +kernel
theorem dX2_chance_6 : decode cX2_chance 6 = .ok (.getfield 41, 3) := by decide +kernel
theorem dX2_chance_9 : decode cX2_chance 9 = .ok (.lstore 4, 2) := by decide +kernel
theorem dX2_chance_11 : decode cX2_chance 11 = .ok (.lload 4, 2) := by decide +kernel
theorem dX2_chance_13 : decode cX2_chance 13 = .ok (.lconst 0, 1) := by decide +kernel
theorem dX2_chance_14 : decode cX2_chance 14 = .ok (.lcmp, 1) := by decide +kernel
theorem dX2_chance_15 : decode cX2_chance 15 = .ok (.ifCond .le 20, 3) := by decide +kernel
theorem dX2_chance_18 : decode cX2_chance 18 = .ok (.aload_n 0, 1) := by decide +kernel
theorem dX2_chance_19 : decode cX2_chance 19 = .ok (.getfield 17, 3) := by decide +kernel
theorem dX2_chance_22 : decode cX2_chance 22 = .ok (.iload_n 1, 1) := by decide +kernel
theorem dX2_chance_23 : decode cX2_chance 23 = .ok (.aaload, 1) := by decide +kernel
theorem dX2_chance_24 : decode cX2_chance 24 = .ok (.getfield 62, 3) := by decide +kernel
theorem dX2_chance_27 : decode cX2_chance 27 = .ok (.lload_n 2, 1) := by decide +kernel
theorem dX2_chance_28 : decode cX2_chance 28 = .ok (.lload 4, 2) := by decide +kernel
theorem dX2_chance_30 : decode cX2_chance 30 = .ok (.ldiv, 1) := by decide +kernel
theorem dX2_chance_31 : decode cX2_chance 31 = .ok (.lmul, 1) := by decide +kernel
theorem dX2_chance_32 : decode cX2_chance 32 = .ok (.goto 4, 3) := by decide +kernel
theorem dX2_chance_35 : decode cX2_chance 35 = .ok (.lconst 0, 1) := by decide +kernel
theorem dX2_chance_36 : decode cX2_chance 36 = .ok (.lreturn, 1) := by decide +kernel
theorem dX3_init_0 : decode cX3_init 0 = .ok (.aload_n 0, 1) := by decide +kernel
theorem dX3_init_1 : decode cX3_init 1 = .ok (.invokespecial 1, 3) := by decide +kernel
theorem dX3_init_4 : decode cX3_init 4 = .ok (.aload_n 0, 1) := by decide +kernel
theorem dX3_init_5 : decode cX3_init 5 = .ok (.iconst 0, 1) := by decide +kernel
theorem dX3_init_6 : decode cX3_init 6 = .ok (.putfield 7, 3) := by decide +kernel
theorem dX3_init_9 : decode cX3_init 9 = .ok (.aload_n 0, 1) := by decide +kernel
theorem dX3_init_10 : decode cX3_init 10 = .ok (.iconst 0, 1) := by decide +kernel
theorem dX3_init_11 : decode cX3_init 11 = .ok (.putfield 13, 3) := by decide +kernel
theorem dX3_init_14 : decode cX3_init 14 = .ok (.aload_n 0, 1) := by decide +kernel
theorem dX3_init_15 : decode cX3_init 15 = .ok (.iconst 0, 1) := by decide +kernel
theorem dX3_init_16 : decode cX3_init 16 = .ok (.putfield 17, 3) := by decide +kernel
theorem dX3_init_19 : decode cX3_init 19 = .ok (.return_, 1) := by decide +kernel
theorem dX3_drawMorning_0 : decode cX3_drawMorning 0 = .ok (.aload_n 0, 1) := by decide +kernel
theorem dX3_drawMorning_1 : decode cX3_drawMorning 1 = .ok (.aload_n 0, 1) := by decide +kernel
theorem dX3_drawMorning_2 : decode cX3_drawMorning 2 = .ok (.sipush 144, 3) := by decide +kernel
theorem dX3_drawMorning_5 : decode cX3_drawMorning 5 = .ok (.invokevirtual 20, 3) := by decide +kernel
theorem dX3_drawMorning_8 : decode cX3_drawMorning 8 = .ok (.iload_n 1, 1) := by decide +kernel
theorem dX3_drawMorning_9 : decode cX3_drawMorning 9 = .ok (.if_icmp .ge 7, 3) := by decide +kernel
theorem dX3_drawMorning_12 : decode cX3_drawMorning 12 = .ok (.iconst 1, 1) := by decide +kernel
theorem dX3_drawMorning_13 : decode cX3_drawMorning 13 = .ok (.goto 4, 3) := by decide +kernel
theorem dX3_drawMorning_16 : decode cX3_drawMorning 16 = .ok (.iconst 0, 1) := by decide +kernel
theorem dX3_drawMorning_17 : decode cX3_drawMorning 17 = .ok (.putfield 13, 3) := by decide +kernel
theorem dX3_drawMorning_20 : decode cX3_drawMorning 20 = .ok (.aload_n 0, 1) := by decide +kernel
theorem dX3_drawMorning_21 : decode cX3_drawMorning 21 = .ok (.aload_n 0, 1) := by decide +kernel
theorem dX3_drawMorning_22 : decode cX3_drawMorning 22 = .ok (.bipush 12, 2) := by decide +kernel
theorem dX3_drawMorning_24 : decode cX3_drawMorning 24 = .ok (.invokevirtual 20, 3) := by decide +kernel
theorem dX3_drawMorning_27 : decode cX3_drawMorning 27 = .ok (.aload_n 0, 1) := by decide +kernel
theorem dX3_drawMorning_28 : decode cX3_drawMorning 28 = .ok (.getfield 13, 3) := by decide +kernel
theorem dX3_drawMorning_31 : decode cX3_drawMorning 31 = .ok (.ifCond .eq 7, 3) := by decide +kernel
theorem dX3_drawMorning_34 : decode cX3_drawMorning 34 = .ok (.iload_n 3, 1) := by decide +kernel
theorem dX3_drawMorning_35 : decode cX3_drawMorning 35 = .ok (.goto 4, 3) := by decide +kernel
theorem dX3_drawMorning_38 : decode cX3_drawMorning 38 = .ok (.iload_n 2, 1) := by decide +kernel
theorem dX3_drawMorning_39 : decode cX3_drawMorning 39 = .ok (.if_icmp .ge 7, 3) := by decide +kernel
theorem dX3_drawMorning_42 : decode cX3_drawMorning 42 = .ok (.iconst 1, 1) := by decide +kernel
theorem dX3_drawMorning_43 : decode cX3_drawMorning 43 = .ok (.goto 4, 3) := by decide +kernel
theorem dX3_drawMorning_46 : decode cX3_drawMorning 46 = .ok (.iconst 0, 1) := by decide +kernel
theorem dX3_drawMorning_47 : decode cX3_drawMorning 47 = .ok (.putfield 17, 3) := by decide +kernel
theorem dX3_drawMorning_50 : decode cX3_drawMorning 50 = .ok (.return_, 1) := by decide +kernel
theorem dX3_draw_0 : decode cX3_draw 0 = .ok (.aload_n 0, 1) := by decide +kernel
theorem dX3_draw_1 : decode cX3_draw 1 = .ok (.aload_n 0, 1) := by decide +kernel
theorem dX3_draw_2 : decode cX3_draw 2 = .ok (.getfield 7, 3) := by decide +kernel
theorem dX3_draw_5 : decode cX3_draw 5 = .ok (.ldc 24, 2) := by decide +kernel
theorem dX3_draw_7 : decode cX3_draw 7 = .ok (.imul, 1) := by decide +kernel
theorem dX3_draw_8 : decode cX3_draw 8 = .ok (.sipush 12345, 3) := by decide +kernel
theorem dX3_draw_11 : decode cX3_draw 11 = .ok (.iadd, 1) := by decide +kernel
theorem dX3_draw_12 : decode cX3_draw 12 = .ok (.putfield 7, 3) := by decide +kernel
theorem dX3_draw_15 : decode cX3_draw 15 = .ok (.iload_n 1, 1) := by decide +kernel
theorem dX3_draw_16 : decode cX3_draw 16 = .ok (.ifCond .le 15, 3) := by decide +kernel
theorem dX3_draw_19 : decode cX3_draw 19 = .ok (.aload_n 0, 1) := by decide +kernel
theorem dX3_draw_20 : decode cX3_draw 20 = .ok (.getfield 7, 3) := by decide +kernel
theorem dX3_draw_23 : decode cX3_draw 23 = .ok (.bipush 8, 2) := by decide +kernel
theorem dX3_draw_25 : decode cX3_draw 25 = .ok (.iushr, 1) := by decide +kernel
theorem dX3_draw_26 : decode cX3_draw 26 = .ok (.iload_n 1, 1) := by decide +kernel
theorem dX3_draw_27 : decode cX3_draw 27 = .ok (.irem, 1) := by decide +kernel
theorem dX3_draw_28 : decode cX3_draw 28 = .ok (.goto 4, 3) := by decide +kernel
theorem dX3_draw_31 : decode cX3_draw 31 = .ok (.iconst 0, 1) := by decide +kernel
theorem dX3_draw_32 : decode cX3_draw 32 = .ok (.ireturn, 1) := by decide +kernel
theorem dX4_init_0 : decode cX4_init 0 = .ok (.aload_n 0, 1) := by decide +kernel
theorem dX4_init_1 : decode cX4_init 1 = .ok (.invokespecial 1, 3) := by decide +kernel
theorem dX4_init_4 : decode cX4_init 4 = .ok (.aload_n 0, 1) := by decide +kernel
theorem dX4_init_5 : decode cX4_init 5 = .ok (.lconst 0, 1) := by decide +kernel
theorem dX4_init_6 : decode cX4_init 6 = .ok (.putfield 7, 3) := by decide +kernel
theorem dX4_init_9 : decode cX4_init 9 = .ok (.aload_n 0, 1) := by decide +kernel
theorem dX4_init_10 : decode cX4_init 10 = .ok (.lconst 1, 1) := by decide +kernel
theorem dX4_init_11 : decode cX4_init 11 = .ok (.putfield 13, 3) := by decide +kernel
theorem dX4_init_14 : decode cX4_init 14 = .ok (.return_, 1) := by decide +kernel
theorem dX4_become_0 : decode cX4_become 0 = .ok (.lload_n 3, 1) := by decide +kernel
theorem dX4_become_1 : decode cX4_become 1 = .ok (.lconst 0, 1) := by decide +kernel
theorem dX4_become_2 : decode cX4_become 2 = .ok (.lcmp, 1) := by decide +kernel
theorem dX4_become_3 : decode cX4_become 3 = .ok (.ifCond .gt 15, 3) := by decide +kernel
theorem dX4_become_6 : decode cX4_become 6 = .ok (.aload_n 0, 1) := by decide +kernel
theorem dX4_become_7 : decode cX4_become 7 = .ok (.lconst 0, 1) := by decide +kernel
theorem dX4_become_8 : decode cX4_become 8 = .ok (.putfield 7, 3) := by decide +kernel
theorem dX4_become_11 : decode cX4_become 11 = .ok (.aload_n 0, 1) := by decide +kernel
theorem dX4_become_12 : decode cX4_become 12 = .ok (.lconst 1, 1) := by decide +kernel
theorem dX4_become_13 : decode cX4_become 13 = .ok (.putfield 13, 3) := by decide +kernel
theorem dX4_become_16 : decode cX4_become 16 = .ok (.iconst 0, 1) := by decide +kernel
theorem dX4_become_17 : decode cX4_become 17 = .ok (.ireturn, 1) := by decide +kernel
theorem dX4_become_18 : decode cX4_become 18 = .ok (.lload_n 1, 1) := by decide +kernel
theorem dX4_become_19 : decode cX4_become 19 = .ok (.invokestatic 16, 3) := by decide +kernel
theorem dX4_become_22 : decode cX4_become 22 = .ok (.lload_n 3, 1) := by decide +kernel
theorem dX4_become_23 : decode cX4_become 23 = .ok (.invokestatic 22, 3) := by decide +kernel
theorem dX4_become_26 : decode cX4_become 26 = .ok (.lstore 5, 2) := by decide +kernel
theorem dX4_become_28 : decode cX4_become 28 = .ok (.lload 5, 2) := by decide +kernel
theorem dX4_become_30 : decode cX4_become 30 = .ok (.lconst 0, 1) := by decide +kernel
theorem dX4_become_31 : decode cX4_become 31 = .ok (.lcmp, 1) := by decide +kernel
theorem dX4_become_32 : decode cX4_become 32 = .ok (.ifCond .gt 6, 3) := by decide +kernel
theorem dX4_become_35 : decode cX4_become 35 = .ok (.lconst 1, 1) := by decide +kernel
theorem dX4_become_36 : decode cX4_become 36 = .ok (.lstore 5, 2) := by decide +kernel
theorem dX4_become_38 : decode cX4_become 38 = .ok (.aload_n 0, 1) := by decide +kernel
theorem dX4_become_39 : decode cX4_become 39 = .ok (.lload_n 1, 1) := by decide +kernel
theorem dX4_become_40 : decode cX4_become 40 = .ok (.lload 5, 2) := by decide +kernel
theorem dX4_become_42 : decode cX4_become 42 = .ok (.ldiv, 1) := by decide +kernel
theorem dX4_become_43 : decode cX4_become 43 = .ok (.putfield 7, 3) := by decide +kernel
theorem dX4_become_46 : decode cX4_become 46 = .ok (.aload_n 0, 1) := by decide +kernel
theorem dX4_become_47 : decode cX4_become 47 = .ok (.lload_n 3, 1) := by decide +kernel
theorem dX4_become_48 : decode cX4_become 48 = .ok (.lload 5, 2) := by decide +kernel
theorem dX4_become_50 : decode cX4_become 50 = .ok (.ldiv, 1) := by decide +kernel
theorem dX4_become_51 : decode cX4_become 51 = .ok (.putfield 13, 3) := by decide +kernel
theorem dX4_become_54 : decode cX4_become 54 = .ok (.iconst 1, 1) := by decide +kernel
theorem dX4_become_55 : decode cX4_become 55 = .ok (.ireturn, 1) := by decide +kernel
theorem dX4_part_0 : decode cX4_part 0 = .ok (.iload_n 1, 1) := by decide +kernel
theorem dX4_part_1 : decode cX4_part 1 = .ok (.ifCond .ne 10, 3) := by decide +kernel
theorem dX4_part_4 : decode cX4_part 4 = .ok (.aload_n 0, 1) := by decide +kernel
theorem dX4_part_5 : decode cX4_part 5 = .ok (.getfield 7, 3) := by decide +kernel
theorem dX4_part_8 : decode cX4_part 8 = .ok (.goto 7, 3) := by decide +kernel
theorem dX4_part_11 : decode cX4_part 11 = .ok (.aload_n 0, 1) := by decide +kernel
theorem dX4_part_12 : decode cX4_part 12 = .ok (.getfield 13, 3) := by decide +kernel
theorem dX4_part_15 : decode cX4_part 15 = .ok (.lreturn, 1) := by decide +kernel
theorem dX4_of144_0 : decode cX4_of144 0 = .ok (.aload_n 0, 1) := by decide +kernel
theorem dX4_of144_1 : decode cX4_of144 1 = .ok (.getfield 13, 3) := by decide +kernel
theorem dX4_of144_4 : decode cX4_of144 4 = .ok (.lconst 0, 1) := by decide +kernel
theorem dX4_of144_5 : decode cX4_of144 5 = .ok (.lcmp, 1) := by decide +kernel
theorem dX4_of144_6 : decode cX4_of144 6 = .ok (.ifCond .le 20, 3) := by decide +kernel
theorem dX4_of144_9 : decode cX4_of144 9 = .ok (.ldc2_w 26, 3) := by decide +kernel
theorem dX4_of144_12 : decode cX4_of144 12 = .ok (.aload_n 0, 1) := by decide +kernel
theorem dX4_of144_13 : decode cX4_of144 13 = .ok (.getfield 7, 3) := by decide +kernel
theorem dX4_of144_16 : decode cX4_of144 16 = .ok (.lmul, 1) := by decide +kernel
theorem dX4_of144_17 : decode cX4_of144 17 = .ok (.aload_n 0, 1) := by decide +kernel
theorem dX4_of144_18 : decode cX4_of144 18 = .ok (.getfield 13, 3) := by decide +kernel
theorem dX4_of144_21 : decode cX4_of144 21 = .ok (.ldiv, 1) := by decide +kernel
theorem dX4_of144_22 : decode cX4_of144 22 = .ok (.l2i, 1) := by decide +kernel
theorem dX4_of144_23 : decode cX4_of144 23 = .ok (.goto 4, 3) := by decide +kernel
theorem dX4_of144_26 : decode cX4_of144 26 = .ok (.iconst 0, 1) := by decide +kernel
theorem dX4_of144_27 : decode cX4_of144 27 = .ok (.ireturn, 1) := by decide +kernel
theorem dX4_commonDivisor_0 : decode cX4_commonDivisor 0 = .ok (.iconst 0, 1) := by decide +kernel
theorem dX4_commonDivisor_1 : decode cX4_commonDivisor 1 = .ok (.istore 4, 2) := by decide +kernel
theorem dX4_commonDivisor_3 : decode cX4_commonDivisor 3 = .ok (.iload 4, 2) := by decide +kernel
theorem dX4_commonDivisor_5 : decode cX4_commonDivisor 5 = .ok (.bipush 100, 2) := by decide +kernel
theorem dX4_commonDivisor_7 : decode cX4_commonDivisor 7 = .ok (.if_icmp .ge 25, 3) := by decide +kernel
theorem dX4_commonDivisor_10 : decode cX4_commonDivisor 10 = .ok (.lload_n 2, 1) := by decide +kernel
theorem dX4_commonDivisor_11 : decode cX4_commonDivisor 11 = .ok (.lconst 0, 1) := by decide +kernel
theorem dX4_commonDivisor_12 : decode cX4_commonDivisor 12 = .ok (.lcmp, 1) := by decide +kernel
theorem dX4_commonDivisor_13 : decode cX4_commonDivisor 13 = .ok (.ifCond .eq 19, 3) := by decide +kernel
theorem dX4_commonDivisor_16 : decode cX4_commonDivisor 16 = .ok (.lload_n 0, 1) := by decide +kernel
theorem dX4_commonDivisor_17 : decode cX4_commonDivisor 17 = .ok (.lload_n 2, 1) := by decide +kernel
theorem dX4_commonDivisor_18 : decode cX4_commonDivisor 18 = .ok (.lrem, 1) := by decide +kernel
theorem dX4_commonDivisor_19 : decode cX4_commonDivisor 19 = .ok (.lstore 5, 2) := by decide +kernel
theorem dX4_commonDivisor_21 : decode cX4_commonDivisor 21 = .ok (.lload_n 2, 1) := by decide +kernel
theorem dX4_commonDivisor_22 : decode cX4_commonDivisor 22 = .ok (.lstore_n 0, 1) := by decide +kernel
theorem dX4_commonDivisor_23 : decode cX4_commonDivisor 23 = .ok (.lload 5, 2) := by decide +kernel
theorem dX4_commonDivisor_25 : decode cX4_commonDivisor 25 = .ok (.lstore_n 2, 1) := by decide +kernel
theorem dX4_commonDivisor_26 : decode cX4_commonDivisor 26 = .ok (.iinc 4 1, 3) := by decide +kernel
theorem dX4_commonDivisor_29 : decode cX4_commonDivisor 29 = .ok (.goto (-26), 3) := by decide +kernel
theorem dX4_commonDivisor_32 : decode cX4_commonDivisor 32 = .ok (.lload_n 0, 1) := by decide +kernel
theorem dX4_commonDivisor_33 : decode cX4_commonDivisor 33 = .ok (.lreturn, 1) := by decide +kernel
theorem dX5_init_0 : decode cX5_init 0 = .ok (.aload_n 0, 1) := by decide +kernel
theorem dX5_init_1 : decode cX5_init 1 = .ok (.invokespecial 3, 3) := by decide +kernel
theorem dX5_init_4 : decode cX5_init 4 = .ok (.aload_n 0, 1) := by decide +kernel
theorem dX5_init_5 : decode cX5_init 5 = .ok (.bipush 50, 2) := by decide +kernel
theorem dX5_init_7 : decode cX5_init 7 = .ok (.newarray .int, 2) := by decide +kernel
theorem dX5_init_9 : decode cX5_init 9 = .ok (.putfield 11, 3) := by decide +kernel
theorem dX5_init_12 : decode cX5_init 12 = .ok (.aload_n 0, 1) := by decide +kernel
theorem dX5_init_13 : decode cX5_init 13 = .ok (.iconst 0, 1) := by decide +kernel
theorem dX5_init_14 : decode cX5_init 14 = .ok (.putfield 15, 3) := by decide +kernel
theorem dX5_init_17 : decode cX5_init 17 = .ok (.aload_n 0, 1) := by decide +kernel
theorem dX5_init_18 : decode cX5_init 18 = .ok (.bipush 24, 2) := by decide +kernel
theorem dX5_init_20 : decode cX5_init 20 = .ok (.newarray .int, 2) := by decide +kernel
theorem dX5_init_22 : decode cX5_init 22 = .ok (.putfield 19, 3) := by decide +kernel
theorem dX5_init_25 : decode cX5_init 25 = .ok (.aload_n 0, 1) := by decide +kernel
theorem dX5_init_26 : decode cX5_init 26 = .ok (.iconst 0, 1) := by decide +kernel
theorem dX5_init_27 : decode cX5_init 27 = .ok (.putfield 22, 3) := by decide +kernel
theorem dX5_init_30 : decode cX5_init 30 = .ok (.aload_n 0, 1) := by decide +kernel
theorem dX5_init_31 : decode cX5_init 31 = .ok (.iconst 0, 1) := by decide +kernel
theorem dX5_init_32 : decode cX5_init 32 = .ok (.putfield 25, 3) := by decide +kernel
theorem dX5_init_35 : decode cX5_init 35 = .ok (.aload_n 0, 1) := by decide +kernel
theorem dX5_init_36 : decode cX5_init 36 = .ok (.iconst 0, 1) := by decide +kernel
theorem dX5_init_37 : decode cX5_init 37 = .ok (.putfield 28, 3) := by decide +kernel
theorem dX5_init_40 : decode cX5_init 40 = .ok (.return_, 1) := by decide +kernel
theorem dX5_come_0 : decode cX5_come 0 = .ok (.aload_n 0, 1) := by decide +kernel
theorem dX5_come_1 : decode cX5_come 1 = .ok (.getfield 15, 3) := by decide +kernel
theorem dX5_come_4 : decode cX5_come 4 = .ok (.bipush 50, 2) := by decide +kernel
theorem dX5_come_6 : decode cX5_come 6 = .ok (.if_icmp .lt 6, 3) := by decide +kernel
theorem dX5_come_9 : decode cX5_come 9 = .ok (.bipush (-3), 2) := by decide +kernel
theorem dX5_come_11 : decode cX5_come 11 = .ok (.ireturn, 1) := by decide +kernel
theorem dX5_come_12 : decode cX5_come 12 = .ok (.aload_n 0, 1) := by decide +kernel
theorem dX5_come_13 : decode cX5_come 13 = .ok (.getfield 11, 3) := by decide +kernel
theorem dX5_come_16 : decode cX5_come 16 = .ok (.aload_n 0, 1) := by decide +kernel
theorem dX5_come_17 : decode cX5_come 17 = .ok (.getfield 15, 3) := by decide +kernel
theorem dX5_come_20 : decode cX5_come 20 = .ok (.iload_n 1, 1) := by decide +kernel
theorem dX5_come_21 : decode cX5_come 21 = .ok (.iastore, 1) := by decide +kernel
theorem dX5_come_22 : decode cX5_come 22 = .ok (.aload_n 0, 1) := by decide +kernel
theorem dX5_come_23 : decode cX5_come 23 = .ok (.dup, 1) := by decide +kernel
theorem dX5_come_24 : decode cX5_come 24 = .ok (.getfield 15, 3) := by decide +kernel
theorem dX5_come_27 : decode cX5_come 27 = .ok (.iconst 1, 1) := by decide +kernel
theorem dX5_come_28 : decode cX5_come 28 = .ok (.iadd, 1) := by decide +kernel
theorem dX5_come_29 : decode cX5_come 29 = .ok (.putfield 15, 3) := by decide +kernel
theorem dX5_come_32 : decode cX5_come 32 = .ok (.aload_n 0, 1) := by decide +kernel
theorem dX5_come_33 : decode cX5_come 33 = .ok (.getfield 15, 3) := by decide +kernel
theorem dX5_come_36 : decode cX5_come 36 = .ok (.iconst 1, 1) := by decide +kernel
theorem dX5_come_37 : decode cX5_come 37 = .ok (.isub, 1) := by decide +kernel
theorem dX5_come_38 : decode cX5_come 38 = .ok (.ireturn, 1) := by decide +kernel
theorem dX5_isUnder_0 : decode cX5_isUnder 0 = .ok (.iload_n 0, 1) := by decide +kernel
theorem dX5_isUnder_1 : decode cX5_isUnder 1 = .ok (.istore_n 2, 1) := by decide +kernel
theorem dX5_isUnder_2 : decode cX5_isUnder 2 = .ok (.iconst 0, 1) := by decide +kernel
theorem dX5_isUnder_3 : decode cX5_isUnder 3 = .ok (.istore_n 3, 1) := by decide +kernel
theorem dX5_isUnder_4 : decode cX5_isUnder 4 = .ok (.iload_n 3, 1) := by decide +kernel
theorem dX5_isUnder_5 : decode cX5_isUnder 5 = .ok (.bipush 8, 2) := by decide +kernel
theorem dX5_isUnder_7 : decode cX5_isUnder 7 = .ok (.if_icmp .ge 32, 3) := by decide +kernel
theorem dX5_isUnder_10 : decode cX5_isUnder 10 = .ok (.iload_n 2, 1) := by decide +kernel
theorem dX5_isUnder_11 : decode cX5_isUnder 11 = .ok (.ifCond .lt 28, 3) := by decide +kernel
theorem dX5_isUnder_14 : decode cX5_isUnder 14 = .ok (.iload_n 2, 1) := by decide +kernel
theorem dX5_isUnder_15 : decode cX5_isUnder 15 = .ok (.bipush 8, 2) := by decide +kernel
theorem dX5_isUnder_17 : decode cX5_isUnder 17 = .ok (.if_icmp .ge 22, 3) := by decide +kernel
theorem dX5_isUnder_20 : decode cX5_isUnder 20 = .ok (.iload_n 2, 1) := by decide +kernel
theorem dX5_isUnder_21 : decode cX5_isUnder 21 = .ok (.iload_n 1, 1) := by decide +kernel
theorem dX5_isUnder_22 : decode cX5_isUnder 22 = .ok (.if_icmp .ne 5, 3) := by decide +kernel
theorem dX5_isUnder_25 : decode cX5_isUnder 25 = .ok (.iconst 1, 1) := by decide +kernel
theorem dX5_isUnder_26 : decode cX5_isUnder 26 = .ok (.ireturn, 1) := by decide +kernel
theorem dX5_isUnder_27 : decode cX5_isUnder 27 = .ok (.getstatic 31, 3) := by decide +kernel
theorem dX5_isUnder_30 : decode cX5_isUnder 30 = .ok (.iload_n 2, 1) := by decide +kernel
theorem dX5_isUnder_31 : decode cX5_isUnder 31 = .ok (.iaload, 1) := by decide +kernel
theorem dX5_isUnder_32 : decode cX5_isUnder 32 = .ok (.istore_n 2, 1) := by decide +kernel
theorem dX5_isUnder_33 : decode cX5_isUnder 33 = .ok (.iinc 3 1, 3) := by decide +kernel
theorem dX5_isUnder_36 : decode cX5_isUnder 36 = .ok (.goto (-32), 3) := by decide +kernel
theorem dX5_isUnder_39 : decode cX5_isUnder 39 = .ok (.iconst 0, 1) := by decide +kernel
theorem dX5_isUnder_40 : decode cX5_isUnder 40 = .ok (.ireturn, 1) := by decide +kernel
theorem dX5_begin_0 : decode cX5_begin 0 = .ok (.iload_n 1, 1) := by decide +kernel
theorem dX5_begin_1 : decode cX5_begin 1 = .ok (.ifCond .lt 11, 3) := by decide +kernel
theorem dX5_begin_4 : decode cX5_begin 4 = .ok (.iload_n 1, 1) := by decide +kernel
theorem dX5_begin_5 : decode cX5_begin 5 = .ok (.aload_n 0, 1) := by decide +kernel
theorem dX5_begin_6 : decode cX5_begin 6 = .ok (.getfield 15, 3) := by decide +kernel
theorem dX5_begin_9 : decode cX5_begin 9 = .ok (.if_icmp .lt 5, 3) := by decide +kernel
theorem dX5_begin_12 : decode cX5_begin 12 = .ok (.iconst 0, 1) := by decide +kernel
theorem dX5_begin_13 : decode cX5_begin 13 = .ok (.ireturn, 1) := by decide +kernel
theorem dX5_begin_14 : decode cX5_begin 14 = .ok (.aload_n 0, 1) := by decide +kernel
theorem dX5_begin_15 : decode cX5_begin 15 = .ok (.iload_n 1, 1) := by decide +kernel
theorem dX5_begin_16 : decode cX5_begin 16 = .ok (.putfield 25, 3) := by decide +kernel
theorem dX5_begin_19 : decode cX5_begin 19 = .ok (.aload_n 0, 1) := by decide +kernel
theorem dX5_begin_20 : decode cX5_begin 20 = .ok (.aload_n 0, 1) := by decide +kernel
theorem dX5_begin_21 : decode cX5_begin 21 = .ok (.getfield 11, 3) := by decide +kernel
theorem dX5_begin_24 : decode cX5_begin 24 = .ok (.iload_n 1, 1) := by decide +kernel
theorem dX5_begin_25 : decode cX5_begin 25 = .ok (.iaload, 1) := by decide +kernel
theorem dX5_begin_26 : decode cX5_begin 26 = .ok (.putfield 28, 3) := by decide +kernel
theorem dX5_begin_29 : decode cX5_begin 29 = .ok (.aload_n 0, 1) := by decide +kernel
theorem dX5_begin_30 : decode cX5_begin 30 = .ok (.aload_n 0, 1) := by decide +kernel
theorem dX5_begin_31 : decode cX5_begin 31 = .ok (.getfield 28, 3) := by decide +kernel
theorem dX5_begin_34 : decode cX5_begin 34 = .ok (.iload_n 2, 1) := by decide +kernel
theorem dX5_begin_35 : decode cX5_begin 35 = .ok (.iload_n 3, 1) := by decide +kernel
theorem dX5_begin_36 : decode cX5_begin 36 = .ok (.iconst 0, 1) := by decide +kernel
theorem dX5_begin_37 : decode cX5_begin 37 = .ok (.invokevirtual 34, 3) := by decide +kernel
theorem dX5_begin_40 : decode cX5_begin 40 = .ok (.ireturn, 1) := by decide +kernel
theorem dX5_does_0 : decode cX5_does 0 = .ok (.iload_n 1, 1) := by decide +kernel
theorem dX5_does_1 : decode cX5_does 1 = .ok (.iload_n 2, 1) := by decide +kernel
theorem dX5_does_2 : decode cX5_does 2 = .ok (.invokestatic 38, 3) := by decide +kernel
theorem dX5_does_5 : decode cX5_does 5 = .ok (.istore 5, 2) := by decide +kernel
theorem dX5_does_7 : decode cX5_does 7 = .ok (.iload 5, 2) := by decide +kernel
theorem dX5_does_9 : decode cX5_does 9 = .ok (.ifCond .lt 10, 3) := by decide +kernel
theorem dX5_does_12 : decode cX5_does 12 = .ok (.iload 4, 2) := by decide +kernel
theorem dX5_does_14 : decode cX5_does 14 = .ok (.bipush 32, 2) := by decide +kernel
theorem dX5_does_16 : decode cX5_does 16 = .ok (.if_icmp .le 5, 3) := by decide +kernel
theorem dX5_does_19 : decode cX5_does 19 = .ok (.iconst 0, 1) := by decide +kernel
theorem dX5_does_20 : decode cX5_does 20 = .ok (.ireturn, 1) := by decide +kernel
theorem dX5_does_21 : decode cX5_does 21 = .ok (.getstatic 42, 3) := by decide +kernel
theorem dX5_does_24 : decode cX5_does 24 = .ok (.iconst 4, 1) := by decide +kernel
theorem dX5_does_25 : decode cX5_does 25 = .ok (.iload 5, 2) := by decide +kernel
theorem dX5_does_27 : decode cX5_does 27 = .ok (.imul, 1) := by decide +kernel
theorem dX5_does_28 : decode cX5_does 28 = .ok (.iload_n 2, 1) := by decide +kernel
theorem dX5_does_29 : decode cX5_does 29 = .ok (.iadd, 1) := by decide +kernel
theorem dX5_does_30 : decode cX5_does 30 = .ok (.iaload, 1) := by decide +kernel
theorem dX5_does_31 : decode cX5_does 31 = .ok (.istore 6, 2) := by decide +kernel
theorem dX5_does_33 : decode cX5_does 33 = .ok (.aload_n 0, 1) := by decide +kernel
theorem dX5_does_34 : decode cX5_does 34 = .ok (.iload 6, 2) := by decide +kernel
theorem dX5_does_36 : decode cX5_does 36 = .ok (.invokevirtual 45, 3) := by decide +kernel
theorem dX5_does_39 : decode cX5_does 39 = .ok (.aload_n 0, 1) := by decide +kernel
theorem dX5_does_40 : decode cX5_does 40 = .ok (.iload 6, 2) := by decide +kernel
theorem dX5_does_42 : decode cX5_does 42 = .ok (.getstatic 31, 3) := by decide +kernel
theorem dX5_does_45 : decode cX5_does 45 = .ok (.iload 5, 2) := by decide +kernel
theorem dX5_does_47 : decode cX5_does 47 = .ok (.iaload, 1) := by decide +kernel
theorem dX5_does_48 : decode cX5_does 48 = .ok (.iload_n 3, 1) := by decide +kernel
theorem dX5_does_49 : decode cX5_does 49 = .ok (.iload 4, 2) := by decide +kernel
theorem dX5_does_51 : decode cX5_does 51 = .ok (.iconst 1, 1) := by decide +kernel
theorem dX5_does_52 : decode cX5_does 52 = .ok (.iadd, 1) := by decide +kernel
theorem dX5_does_53 : decode cX5_does 53 = .ok (.invokevirtual 49, 3) := by decide +kernel
theorem dX5_does_56 : decode cX5_does 56 = .ok (.ireturn, 1) := by decide +kernel
theorem dX5_runs_0 : decode cX5_runs 0 = .ok (.iload_n 1, 1) := by decide +kernel
theorem dX5_runs_1 : decode cX5_runs 1 = .ok (.lookupswitch 299 #[(1, 115), (2, 122), (10, 148), (11, 163), (20, 170), (30, 182), (40, 193), (41, 205), (50, 217), (60, 240), (70, 252), (80, 264), (81, 287)], 115) := by decide +kernel
theorem dX5_runs_116 : decode cX5_runs 116 = .ok (.iload_n 3, 1) := by decide +kernel
theorem dX5_runs_117 : decode cX5_runs 117 = .ok (.aload_n 0, 1) := by decide +kernel
theorem dX5_runs_118 : decode cX5_runs 118 = .ok (.getfield 25, 3) := by decide +kernel
theorem dX5_runs_121 : decode cX5_runs 121 = .ok (.iadd, 1) := by decide +kernel
theorem dX5_runs_122 : decode cX5_runs 122 = .ok (.ireturn, 1) := by decide +kernel
theorem dX5_runs_123 : decode cX5_runs 123 = .ok (.aload_n 0, 1) := by decide +kernel
theorem dX5_runs_124 : decode cX5_runs 124 = .ok (.aload_n 0, 1) := by decide +kernel
theorem dX5_runs_125 : decode cX5_runs 125 = .ok (.getfield 28, 3) := by decide +kernel
theorem dX5_runs_128 : decode cX5_runs 128 = .ok (.iconst 1, 1) := by decide +kernel
theorem dX5_runs_129 : decode cX5_runs 129 = .ok (.iload_n 3, 1) := by decide +kernel
theorem dX5_runs_130 : decode cX5_runs 130 = .ok (.iload 4, 2) := by decide +kernel
theorem dX5_runs_132 : decode cX5_runs 132 = .ok (.invokevirtual 34, 3) := by decide +kernel
theorem dX5_runs_135 : decode cX5_runs 135 = .ok (.aload_n 0, 1) := by decide +kernel
theorem dX5_runs_136 : decode cX5_runs 136 = .ok (.aload_n 0, 1) := by decide +kernel
theorem dX5_runs_137 : decode cX5_runs 137 = .ok (.getfield 28, 3) := by decide +kernel
theorem dX5_runs_140 : decode cX5_runs 140 = .ok (.iconst 2, 1) := by decide +kernel
theorem dX5_runs_141 : decode cX5_runs 141 = .ok (.iconst 1, 1) := by decide +kernel
theorem dX5_runs_142 : decode cX5_runs 142 = .ok (.iload 4, 2) := by decide +kernel
theorem dX5_runs_144 : decode cX5_runs 144 = .ok (.invokevirtual 34, 3) := by decide +kernel
theorem dX5_runs_147 : decode cX5_runs 147 = .ok (.isub, 1) := by decide +kernel
theorem dX5_runs_148 : decode cX5_runs 148 = .ok (.ireturn, 1) := by decide +kernel
theorem dX5_runs_149 : decode cX5_runs 149 = .ok (.aload_n 0, 1) := by decide +kernel
theorem dX5_runs_150 : decode cX5_runs 150 = .ok (.aload_n 0, 1) := by decide +kernel
theorem dX5_runs_151 : decode cX5_runs 151 = .ok (.getfield 28, 3) := by decide +kernel
theorem dX5_runs_154 : decode cX5_runs 154 = .ok (.iconst 0, 1) := by decide +kernel
theorem dX5_runs_155 : decode cX5_runs 155 = .ok (.iload_n 3, 1) := by decide +kernel
theorem dX5_runs_156 : decode cX5_runs 156 = .ok (.iload 4, 2) := by decide +kernel
theorem dX5_runs_158 : decode cX5_runs 158 = .ok (.invokevirtual 34, 3) := by decide +kernel
theorem dX5_runs_161 : decode cX5_runs 161 = .ok (.iconst 2, 1) := by decide +kernel
theorem dX5_runs_162 : decode cX5_runs 162 = .ok (.imul, 1) := by decide +kernel
theorem dX5_runs_163 : decode cX5_runs 163 = .ok (.ireturn, 1) := by decide +kernel
theorem dX5_runs_164 : decode cX5_runs 164 = .ok (.iload_n 3, 1) := by decide +kernel
theorem dX5_runs_165 : decode cX5_runs 165 = .ok (.aload_n 0, 1) := by decide +kernel
theorem dX5_runs_166 : decode cX5_runs 166 = .ok (.getfield 25, 3) := by decide +kernel
theorem dX5_runs_169 : decode cX5_runs 169 = .ok (.ixor, 1) := by decide +kernel
theorem dX5_runs_170 : decode cX5_runs 170 = .ok (.ireturn, 1) := by decide +kernel
theorem dX5_runs_171 : decode cX5_runs 171 = .ok (.aload_n 0, 1) := by decide +kernel
theorem dX5_runs_172 : decode cX5_runs 172 = .ok (.iload_n 2, 1) := by decide +kernel
theorem dX5_runs_173 : decode cX5_runs 173 = .ok (.iconst 0, 1) := by decide +kernel
theorem dX5_runs_174 : decode cX5_runs 174 = .ok (.iload_n 3, 1) := by decide +kernel
theorem dX5_runs_175 : decode cX5_runs 175 = .ok (.iload 4, 2) := by decide +kernel
theorem dX5_runs_177 : decode cX5_runs 177 = .ok (.invokevirtual 34, 3) := by decide +kernel
theorem dX5_runs_180 : decode cX5_runs 180 = .ok (.iconst 3, 1) := by decide +kernel
theorem dX5_runs_181 : decode cX5_runs 181 = .ok (.iadd, 1) := by decide +kernel
theorem dX5_runs_182 : decode cX5_runs 182 = .ok (.ireturn, 1) := by decide +kernel
theorem dX5_runs_183 : decode cX5_runs 183 = .ok (.aload_n 0, 1) := by decide +kernel
theorem dX5_runs_184 : decode cX5_runs 184 = .ok (.iload_n 2, 1) := by decide +kernel
theorem dX5_runs_185 : decode cX5_runs 185 = .ok (.iconst 1, 1) := by decide +kernel
theorem dX5_runs_186 : decode cX5_runs 186 = .ok (.iload_n 3, 1) := by decide +kernel
theorem dX5_runs_187 : decode cX5_runs 187 = .ok (.iload 4, 2) := by decide +kernel
theorem dX5_runs_189 : decode cX5_runs 189 = .ok (.invokevirtual 34, 3) := by decide +kernel
theorem dX5_runs_192 : decode cX5_runs 192 = .ok (.ineg, 1) := by decide +kernel
theorem dX5_runs_193 : decode cX5_runs 193 = .ok (.ireturn, 1) := by decide +kernel
theorem dX5_runs_194 : decode cX5_runs 194 = .ok (.aload_n 0, 1) := by decide +kernel
theorem dX5_runs_195 : decode cX5_runs 195 = .ok (.iload_n 2, 1) := by decide +kernel
theorem dX5_runs_196 : decode cX5_runs 196 = .ok (.iconst 2, 1) := by decide +kernel
theorem dX5_runs_197 : decode cX5_runs 197 = .ok (.iload_n 3, 1) := by decide +kernel
theorem dX5_runs_198 : decode cX5_runs 198 = .ok (.iload 4, 2) := by decide +kernel
theorem dX5_runs_200 : decode cX5_runs 200 = .ok (.invokevirtual 34, 3) := by decide +kernel
theorem dX5_runs_203 : decode cX5_runs 203 = .ok (.iconst 3, 1) := by decide +kernel
theorem dX5_runs_204 : decode cX5_runs 204 = .ok (.imul, 1) := by decide +kernel
theorem dX5_runs_205 : decode cX5_runs 205 = .ok (.ireturn, 1) := by decide +kernel
theorem dX5_runs_206 : decode cX5_runs 206 = .ok (.aload_n 0, 1) := by decide +kernel
theorem dX5_runs_207 : decode cX5_runs 207 = .ok (.iload_n 2, 1) := by decide +kernel
theorem dX5_runs_208 : decode cX5_runs 208 = .ok (.iconst 1, 1) := by decide +kernel
theorem dX5_runs_209 : decode cX5_runs 209 = .ok (.iload_n 3, 1) := by decide +kernel
theorem dX5_runs_210 : decode cX5_runs 210 = .ok (.iconst 1, 1) := by decide +kernel
theorem dX5_runs_211 : decode cX5_runs 211 = .ok (.iadd, 1) := by decide +kernel
theorem dX5_runs_212 : decode cX5_runs 212 = .ok (.iload 4, 2) := by decide +kernel
theorem dX5_runs_214 : decode cX5_runs 214 = .ok (.invokevirtual 34, 3) := by decide +kernel
theorem dX5_runs_217 : decode cX5_runs 217 = .ok (.ireturn, 1) := by decide +kernel
theorem dX5_runs_218 : decode cX5_runs 218 = .ok (.aload_n 0, 1) := by decide +kernel
theorem dX5_runs_219 : decode cX5_runs 219 = .ok (.iload_n 2, 1) := by decide +kernel
theorem dX5_runs_220 : decode cX5_runs 220 = .ok (.iconst 2, 1) := by decide +kernel
theorem dX5_runs_221 : decode cX5_runs 221 = .ok (.iload_n 3, 1) := by decide +kernel
theorem dX5_runs_222 : decode cX5_runs 222 = .ok (.iload 4, 2) := by decide +kernel
theorem dX5_runs_224 : decode cX5_runs 224 = .ok (.invokevirtual 34, 3) := by decide +kernel
theorem dX5_runs_227 : decode cX5_runs 227 = .ok (.aload_n 0, 1) := by decide +kernel
theorem dX5_runs_228 : decode cX5_runs 228 = .ok (.aload_n 0, 1) := by decide +kernel
theorem dX5_runs_229 : decode cX5_runs 229 = .ok (.getfield 28, 3) := by decide +kernel
theorem dX5_runs_232 : decode cX5_runs 232 = .ok (.iconst 0, 1) := by decide +kernel
theorem dX5_runs_233 : decode cX5_runs 233 = .ok (.iconst 2, 1) := by decide +kernel
theorem dX5_runs_234 : decode cX5_runs 234 = .ok (.iload 4, 2) := by decide +kernel
theorem dX5_runs_236 : decode cX5_runs 236 = .ok (.invokevirtual 34, 3) := by decide +kernel
theorem dX5_runs_239 : decode cX5_runs 239 = .ok (.isub, 1) := by decide +kernel
theorem dX5_runs_240 : decode cX5_runs 240 = .ok (.ireturn, 1) := by decide +kernel
theorem dX5_runs_241 : decode cX5_runs 241 = .ok (.aload_n 0, 1) := by decide +kernel
theorem dX5_runs_242 : decode cX5_runs 242 = .ok (.iload_n 2, 1) := by decide +kernel
theorem dX5_runs_243 : decode cX5_runs 243 = .ok (.iconst 3, 1) := by decide +kernel
theorem dX5_runs_244 : decode cX5_runs 244 = .ok (.iload_n 3, 1) := by decide +kernel
theorem dX5_runs_245 : decode cX5_runs 245 = .ok (.iload 4, 2) := by decide +kernel
theorem dX5_runs_247 : decode cX5_runs 247 = .ok (.invokevirtual 34, 3) := by decide +kernel
theorem dX5_runs_250 : decode cX5_runs 250 = .ok (.iconst 5, 1) := by decide +kernel
theorem dX5_runs_251 : decode cX5_runs 251 = .ok (.ixor, 1) := by decide +kernel
theorem dX5_runs_252 : decode cX5_runs 252 = .ok (.ireturn, 1) := by decide +kernel
theorem dX5_runs_253 : decode cX5_runs 253 = .ok (.aload_n 0, 1) := by decide +kernel
theorem dX5_runs_254 : decode cX5_runs 254 = .ok (.iload_n 2, 1) := by decide +kernel
theorem dX5_runs_255 : decode cX5_runs 255 = .ok (.iconst 0, 1) := by decide +kernel
theorem dX5_runs_256 : decode cX5_runs 256 = .ok (.iload_n 3, 1) := by decide +kernel
theorem dX5_runs_257 : decode cX5_runs 257 = .ok (.iload 4, 2) := by decide +kernel
theorem dX5_runs_259 : decode cX5_runs 259 = .ok (.invokevirtual 34, 3) := by decide +kernel
theorem dX5_runs_262 : decode cX5_runs 262 = .ok (.iconst 2, 1) := by decide +kernel
theorem dX5_runs_263 : decode cX5_runs 263 = .ok (.imul, 1) := by decide +kernel
theorem dX5_runs_264 : decode cX5_runs 264 = .ok (.ireturn, 1) := by decide +kernel
theorem dX5_runs_265 : decode cX5_runs 265 = .ok (.aload_n 0, 1) := by decide +kernel
theorem dX5_runs_266 : decode cX5_runs 266 = .ok (.iload_n 2, 1) := by decide +kernel
theorem dX5_runs_267 : decode cX5_runs 267 = .ok (.iconst 1, 1) := by decide +kernel
theorem dX5_runs_268 : decode cX5_runs 268 = .ok (.iload_n 3, 1) := by decide +kernel
theorem dX5_runs_269 : decode cX5_runs 269 = .ok (.iload 4, 2) := by decide +kernel
theorem dX5_runs_271 : decode cX5_runs 271 = .ok (.invokevirtual 34, 3) := by decide +kernel
theorem dX5_runs_274 : decode cX5_runs 274 = .ok (.aload_n 0, 1) := by decide +kernel
theorem dX5_runs_275 : decode cX5_runs 275 = .ok (.aload_n 0, 1) := by decide +kernel
theorem dX5_runs_276 : decode cX5_runs 276 = .ok (.getfield 28, 3) := by decide +kernel
theorem dX5_runs_279 : decode cX5_runs 279 = .ok (.iconst 2, 1) := by decide +kernel
theorem dX5_runs_280 : decode cX5_runs 280 = .ok (.iconst 2, 1) := by decide +kernel
theorem dX5_runs_281 : decode cX5_runs 281 = .ok (.iload 4, 2) := by decide +kernel
theorem dX5_runs_283 : decode cX5_runs 283 = .ok (.invokevirtual 34, 3) := by decide +kernel
theorem dX5_runs_286 : decode cX5_runs 286 = .ok (.iadd, 1) := by decide +kernel
theorem dX5_runs_287 : decode cX5_runs 287 = .ok (.ireturn, 1) := by decide +kernel
theorem dX5_runs_288 : decode cX5_runs 288 = .ok (.aload_n 0, 1) := by decide +kernel
theorem dX5_runs_289 : decode cX5_runs 289 = .ok (.iload_n 2, 1) := by decide +kernel
theorem dX5_runs_290 : decode cX5_runs 290 = .ok (.iconst 3, 1) := by decide +kernel
theorem dX5_runs_291 : decode cX5_runs 291 = .ok (.iload_n 3, 1) := by decide +kernel
theorem dX5_runs_292 : decode cX5_runs 292 = .ok (.iload 4, 2) := by decide +kernel
theorem dX5_runs_294 : decode cX5_runs 294 = .ok (.invokevirtual 34, 3) := by decide +kernel
theorem dX5_runs_297 : decode cX5_runs 297 = .ok (.iconst 1, 1) := by decide +kernel
theorem dX5_runs_298 : decode cX5_runs 298 = .ok (.isub, 1) := by decide +kernel
theorem dX5_runs_299 : decode cX5_runs 299 = .ok (.ireturn, 1) := by decide +kernel
theorem dX5_runs_300 : decode cX5_runs 300 = .ok (.iconst 0, 1) := by decide +kernel
theorem dX5_runs_301 : decode cX5_runs 301 = .ok (.ireturn, 1) := by decide +kernel
theorem dX5_ownerOf_0 : decode cX5_ownerOf 0 = .ok (.iload_n 0, 1) := by decide +kernel
theorem dX5_ownerOf_1 : decode cX5_ownerOf 1 = .ok (.istore_n 2, 1) := by decide +kernel
theorem dX5_ownerOf_2 : decode cX5_ownerOf 2 = .ok (.iconst 0, 1) := by decide +kernel
theorem dX5_ownerOf_3 : decode cX5_ownerOf 3 = .ok (.istore_n 3, 1) := by decide +kernel
theorem dX5_ownerOf_4 : decode cX5_ownerOf 4 = .ok (.iload_n 3, 1) := by decide +kernel
theorem dX5_ownerOf_5 : decode cX5_ownerOf 5 = .ok (.bipush 8, 2) := by decide +kernel
theorem dX5_ownerOf_7 : decode cX5_ownerOf 7 = .ok (.if_icmp .ge 48, 3) := by decide +kernel
theorem dX5_ownerOf_10 : decode cX5_ownerOf 10 = .ok (.iload_n 2, 1) := by decide +kernel
theorem dX5_ownerOf_11 : decode cX5_ownerOf 11 = .ok (.ifCond .lt 44, 3) := by decide +kernel
theorem dX5_ownerOf_14 : decode cX5_ownerOf 14 = .ok (.iload_n 2, 1) := by decide +kernel
theorem dX5_ownerOf_15 : decode cX5_ownerOf 15 = .ok (.bipush 8, 2) := by decide +kernel
theorem dX5_ownerOf_17 : decode cX5_ownerOf 17 = .ok (.if_icmp .ge 38, 3) := by decide +kernel
theorem dX5_ownerOf_20 : decode cX5_ownerOf 20 = .ok (.iload_n 1, 1) := by decide +kernel
theorem dX5_ownerOf_21 : decode cX5_ownerOf 21 = .ok (.ifCond .lt 22, 3) := by decide +kernel
theorem dX5_ownerOf_24 : decode cX5_ownerOf 24 = .ok (.iload_n 1, 1) := by decide +kernel
theorem dX5_ownerOf_25 : decode cX5_ownerOf 25 = .ok (.iconst 4, 1) := by decide +kernel
theorem dX5_ownerOf_26 : decode cX5_ownerOf 26 = .ok (.if_icmp .ge 17, 3) := by decide +kernel
theorem dX5_ownerOf_29 : decode cX5_ownerOf 29 = .ok (.getstatic 42, 3) := by decide +kernel
theorem dX5_ownerOf_32 : decode cX5_ownerOf 32 = .ok (.iconst 4, 1) := by decide +kernel
theorem dX5_ownerOf_33 : decode cX5_ownerOf 33 = .ok (.iload_n 2, 1) := by decide +kernel
theorem dX5_ownerOf_34 : decode cX5_ownerOf 34 = .ok (.imul, 1) := by decide +kernel
theorem dX5_ownerOf_35 : decode cX5_ownerOf 35 = .ok (.iload_n 1, 1) := by decide +kernel
theorem dX5_ownerOf_36 : decode cX5_ownerOf 36 = .ok (.iadd, 1) := by decide +kernel
theorem dX5_ownerOf_37 : decode cX5_ownerOf 37 = .ok (.iaload, 1) := by decide +kernel
theorem dX5_ownerOf_38 : decode cX5_ownerOf 38 = .ok (.ifCond .eq 5, 3) := by decide +kernel
theorem dX5_ownerOf_41 : decode cX5_ownerOf 41 = .ok (.iload_n 2, 1) := by decide +kernel
theorem dX5_ownerOf_42 : decode cX5_ownerOf 42 = .ok (.ireturn, 1) := by decide +kernel
theorem dX5_ownerOf_43 : decode cX5_ownerOf 43 = .ok (.getstatic 31, 3) := by decide +kernel
theorem dX5_ownerOf_46 : decode cX5_ownerOf 46 = .ok (.iload_n 2, 1) := by decide +kernel
theorem dX5_ownerOf_47 : decode cX5_ownerOf 47 = .ok (.iaload, 1) := by decide +kernel
theorem dX5_ownerOf_48 : decode cX5_ownerOf 48 = .ok (.istore_n 2, 1) := by decide +kernel
theorem dX5_ownerOf_49 : decode cX5_ownerOf 49 = .ok (.iinc 3 1, 3) := by decide +kernel
theorem dX5_ownerOf_52 : decode cX5_ownerOf 52 = .ok (.goto (-48), 3) := by decide +kernel
theorem dX5_ownerOf_55 : decode cX5_ownerOf 55 = .ok (.iconst (-1), 1) := by decide +kernel
theorem dX5_ownerOf_56 : decode cX5_ownerOf 56 = .ok (.ireturn, 1) := by decide +kernel
theorem dX5_note_0 : decode cX5_note 0 = .ok (.aload_n 0, 1) := by decide +kernel
theorem dX5_note_1 : decode cX5_note 1 = .ok (.getfield 22, 3) := by decide +kernel
theorem dX5_note_4 : decode cX5_note 4 = .ok (.bipush 24, 2) := by decide +kernel
theorem dX5_note_6 : decode cX5_note 6 = .ok (.if_icmp .ge 13, 3) := by decide +kernel
theorem dX5_note_9 : decode cX5_note 9 = .ok (.aload_n 0, 1) := by decide +kernel
theorem dX5_note_10 : decode cX5_note 10 = .ok (.getfield 19, 3) := by decide +kernel
theorem dX5_note_13 : decode cX5_note 13 = .ok (.aload_n 0, 1) := by decide +kernel
theorem dX5_note_14 : decode cX5_note 14 = .ok (.getfield 22, 3) := by decide +kernel
theorem dX5_note_17 : decode cX5_note 17 = .ok (.iload_n 1, 1) := by decide +kernel
theorem dX5_note_18 : decode cX5_note 18 = .ok (.iastore, 1) := by decide +kernel
theorem dX5_note_19 : decode cX5_note 19 = .ok (.aload_n 0, 1) := by decide +kernel
theorem dX5_note_20 : decode cX5_note 20 = .ok (.dup, 1) := by decide +kernel
theorem dX5_note_21 : decode cX5_note 21 = .ok (.getfield 22, 3) := by decide +kernel
theorem dX5_note_24 : decode cX5_note 24 = .ok (.iconst 1, 1) := by decide +kernel
theorem dX5_note_25 : decode cX5_note 25 = .ok (.iadd, 1) := by decide +kernel
theorem dX5_note_26 : decode cX5_note 26 = .ok (.putfield 22, 3) := by decide +kernel
theorem dX5_note_29 : decode cX5_note 29 = .ok (.return_, 1) := by decide +kernel
theorem dX6_init_0 : decode cX6_init 0 = .ok (.aload_n 0, 1) := by decide +kernel
theorem dX6_init_1 : decode cX6_init 1 = .ok (.invokespecial 1, 3) := by decide +kernel
theorem dX6_init_4 : decode cX6_init 4 = .ok (.aload_n 0, 1) := by decide +kernel
theorem dX6_init_5 : decode cX6_init 5 = .ok (.bipush 120, 2) := by decide +kernel
theorem dX6_init_7 : decode cX6_init 7 = .ok (.newarray .int, 2) := by decide +kernel
theorem dX6_init_9 : decode cX6_init 9 = .ok (.putfield 9, 3) := by decide +kernel
theorem dX6_init_12 : decode cX6_init 12 = .ok (.aload_n 0, 1) := by decide +kernel
theorem dX6_init_13 : decode cX6_init 13 = .ok (.iconst 0, 1) := by decide +kernel
theorem dX6_init_14 : decode cX6_init 14 = .ok (.putfield 13, 3) := by decide +kernel
theorem dX6_init_17 : decode cX6_init 17 = .ok (.aload_n 0, 1) := by decide +kernel
theorem dX6_init_18 : decode cX6_init 18 = .ok (.bipush 120, 2) := by decide +kernel
theorem dX6_init_20 : decode cX6_init 20 = .ok (.newarray .int, 2) := by decide +kernel
theorem dX6_init_22 : decode cX6_init 22 = .ok (.putfield 17, 3) := by decide +kernel
theorem dX6_init_25 : decode cX6_init 25 = .ok (.aload_n 0, 1) := by decide +kernel
theorem dX6_init_26 : decode cX6_init 26 = .ok (.iconst 0, 1) := by decide +kernel
theorem dX6_init_27 : decode cX6_init 27 = .ok (.putfield 20, 3) := by decide +kernel
theorem dX6_init_30 : decode cX6_init 30 = .ok (.aload_n 0, 1) := by decide +kernel
theorem dX6_init_31 : decode cX6_init 31 = .ok (.bipush 6, 2) := by decide +kernel
theorem dX6_init_33 : decode cX6_init 33 = .ok (.newarray .int, 2) := by decide +kernel
theorem dX6_init_35 : decode cX6_init 35 = .ok (.putfield 23, 3) := by decide +kernel
theorem dX6_init_38 : decode cX6_init 38 = .ok (.aload_n 0, 1) := by decide +kernel
theorem dX6_init_39 : decode cX6_init 39 = .ok (.iconst 0, 1) := by decide +kernel
theorem dX6_init_40 : decode cX6_init 40 = .ok (.putfield 26, 3) := by decide +kernel
theorem dX6_init_43 : decode cX6_init 43 = .ok (.aload_n 0, 1) := by decide +kernel
theorem dX6_init_44 : decode cX6_init 44 = .ok (.iconst (-1), 1) := by decide +kernel
theorem dX6_init_45 : decode cX6_init 45 = .ok (.putfield 29, 3) := by decide +kernel
theorem dX6_init_48 : decode cX6_init 48 = .ok (.return_, 1) := by decide +kernel
theorem dX6_append_0 : decode cX6_append 0 = .ok (.aload_n 0, 1) := by decide +kernel
theorem dX6_append_1 : decode cX6_append 1 = .ok (.getfield 13, 3) := by decide +kernel
theorem dX6_append_4 : decode cX6_append 4 = .ok (.bipush 120, 2) := by decide +kernel
theorem dX6_append_6 : decode cX6_append 6 = .ok (.if_icmp .ge 23, 3) := by decide +kernel
theorem dX6_append_9 : decode cX6_append 9 = .ok (.aload_n 0, 1) := by decide +kernel
theorem dX6_append_10 : decode cX6_append 10 = .ok (.getfield 9, 3) := by decide +kernel
theorem dX6_append_13 : decode cX6_append 13 = .ok (.aload_n 0, 1) := by decide +kernel
theorem dX6_append_14 : decode cX6_append 14 = .ok (.getfield 13, 3) := by decide +kernel
theorem dX6_append_17 : decode cX6_append 17 = .ok (.iload_n 1, 1) := by decide +kernel
theorem dX6_append_18 : decode cX6_append 18 = .ok (.iastore, 1) := by decide +kernel
theorem dX6_append_19 : decode cX6_append 19 = .ok (.aload_n 0, 1) := by decide +kernel
theorem dX6_append_20 : decode cX6_append 20 = .ok (.dup, 1) := by decide +kernel
theorem dX6_append_21 : decode cX6_append 21 = .ok (.getfield 13, 3) := by decide +kernel
theorem dX6_append_24 : decode cX6_append 24 = .ok (.iconst 1, 1) := by decide +kernel
theorem dX6_append_25 : decode cX6_append 25 = .ok (.iadd, 1) := by decide +kernel
theorem dX6_append_26 : decode cX6_append 26 = .ok (.putfield 13, 3) := by decide +kernel
theorem dX6_append_29 : decode cX6_append 29 = .ok (.aload_n 0, 1) := by decide +kernel
theorem dX6_append_30 : decode cX6_append 30 = .ok (.getfield 13, 3) := by decide +kernel
theorem dX6_append_33 : decode cX6_append 33 = .ok (.ireturn, 1) := by decide +kernel
theorem dX6_enact_0 : decode cX6_enact 0 = .ok (.aload_n 0, 1) := by decide +kernel
theorem dX6_enact_1 : decode cX6_enact 1 = .ok (.getfield 17, 3) := by decide +kernel
theorem dX6_enact_4 : decode cX6_enact 4 = .ok (.astore_n 1, 1) := by decide +kernel
theorem dX6_enact_5 : decode cX6_enact 5 = .ok (.aload_n 0, 1) := by decide +kernel
theorem dX6_enact_6 : decode cX6_enact 6 = .ok (.getfield 20, 3) := by decide +kernel
theorem dX6_enact_9 : decode cX6_enact 9 = .ok (.istore_n 2, 1) := by decide +kernel
theorem dX6_enact_10 : decode cX6_enact 10 = .ok (.aload_n 0, 1) := by decide +kernel
theorem dX6_enact_11 : decode cX6_enact 11 = .ok (.aload_n 0, 1) := by decide +kernel
theorem dX6_enact_12 : decode cX6_enact 12 = .ok (.getfield 9, 3) := by decide +kernel
theorem dX6_enact_15 : decode cX6_enact 15 = .ok (.putfield 17, 3) := by decide +kernel
theorem dX6_enact_18 : decode cX6_enact 18 = .ok (.aload_n 0, 1) := by decide +kernel
theorem dX6_enact_19 : decode cX6_enact 19 = .ok (.aload_n 0, 1) := by decide +kernel
theorem dX6_enact_20 : decode cX6_enact 20 = .ok (.getfield 13, 3) := by decide +kernel
theorem dX6_enact_23 : decode cX6_enact 23 = .ok (.putfield 20, 3) := by decide +kernel
theorem dX6_enact_26 : decode cX6_enact 26 = .ok (.aload_n 0, 1) := by decide +kernel
theorem dX6_enact_27 : decode cX6_enact 27 = .ok (.aload_n 1, 1) := by decide +kernel
theorem dX6_enact_28 : decode cX6_enact 28 = .ok (.putfield 9, 3) := by decide +kernel
theorem dX6_enact_31 : decode cX6_enact 31 = .ok (.aload_n 0, 1) := by decide +kernel
theorem dX6_enact_32 : decode cX6_enact 32 = .ok (.iconst 0, 1) := by decide +kernel
theorem dX6_enact_33 : decode cX6_enact 33 = .ok (.putfield 13, 3) := by decide +kernel
theorem dX6_enact_36 : decode cX6_enact 36 = .ok (.aload_n 0, 1) := by decide +kernel
theorem dX6_enact_37 : decode cX6_enact 37 = .ok (.invokevirtual 32, 3) := by decide +kernel
theorem dX6_enact_40 : decode cX6_enact 40 = .ok (.pop, 1) := by decide +kernel
theorem dX6_enact_41 : decode cX6_enact 41 = .ok (.aload_n 0, 1) := by decide +kernel
theorem dX6_enact_42 : decode cX6_enact 42 = .ok (.getfield 29, 3) := by decide +kernel
theorem dX6_enact_45 : decode cX6_enact 45 = .ok (.ifCond .lt 21, 3) := by decide +kernel
theorem dX6_enact_48 : decode cX6_enact 48 = .ok (.aload_n 0, 1) := by decide +kernel
theorem dX6_enact_49 : decode cX6_enact 49 = .ok (.aload_n 0, 1) := by decide +kernel
theorem dX6_enact_50 : decode cX6_enact 50 = .ok (.getfield 17, 3) := by decide +kernel
theorem dX6_enact_53 : decode cX6_enact 53 = .ok (.putfield 9, 3) := by decide +kernel
theorem dX6_enact_56 : decode cX6_enact 56 = .ok (.aload_n 0, 1) := by decide +kernel
theorem dX6_enact_57 : decode cX6_enact 57 = .ok (.aload_n 1, 1) := by decide +kernel
theorem dX6_enact_58 : decode cX6_enact 58 = .ok (.putfield 17, 3) := by decide +kernel
theorem dX6_enact_61 : decode cX6_enact 61 = .ok (.aload_n 0, 1) := by decide +kernel
theorem dX6_enact_62 : decode cX6_enact 62 = .ok (.iload_n 2, 1) := by decide +kernel
theorem dX6_enact_63 : decode cX6_enact 63 = .ok (.putfield 20, 3) := by decide +kernel
theorem dX6_enact_66 : decode cX6_enact 66 = .ok (.aload_n 0, 1) := by decide +kernel
theorem dX6_enact_67 : decode cX6_enact 67 = .ok (.getfield 29, 3) := by decide +kernel
theorem dX6_enact_70 : decode cX6_enact 70 = .ok (.ireturn, 1) := by decide +kernel
theorem dX6_says_0 : decode cX6_says 0 = .ok (.aload_n 0, 1) := by decide +kernel
theorem dX6_says_1 : decode cX6_says 1 = .ok (.getfield 20, 3) := by decide +kernel
theorem dX6_says_4 : decode cX6_says 4 = .ok (.ifCond .ne 23, 3) := by decide +kernel
theorem dX6_says_7 : decode cX6_says 7 = .ok (.iload_n 1, 1) := by decide +kernel
theorem dX6_says_8 : decode cX6_says 8 = .ok (.iload_n 2, 1) := by decide +kernel
theorem dX6_says_9 : decode cX6_says 9 = .ok (.imul, 1) := by decide +kernel
theorem dX6_says_10 : decode cX6_says 10 = .ok (.sipush 288, 3) := by decide +kernel
theorem dX6_says_13 : decode cX6_says 13 = .ok (.iload_n 3, 1) := by decide +kernel
theorem dX6_says_14 : decode cX6_says 14 = .ok (.imul, 1) := by decide +kernel
theorem dX6_says_15 : decode cX6_says 15 = .ok (.iload 4, 2) := by decide +kernel
theorem dX6_says_17 : decode cX6_says 17 = .ok (.imul, 1) := by decide +kernel
theorem dX6_says_18 : decode cX6_says 18 = .ok (.if_icmp .le 7, 3) := by decide +kernel
theorem dX6_says_21 : decode cX6_says 21 = .ok (.iconst 1, 1) := by decide +kernel
theorem dX6_says_22 : decode cX6_says 22 = .ok (.goto 4, 3) := by decide +kernel
theorem dX6_says_25 : decode cX6_says 25 = .ok (.iconst 0, 1) := by decide +kernel
theorem dX6_says_26 : decode cX6_says 26 = .ok (.ireturn, 1) := by decide +kernel
theorem dX6_says_27 : decode cX6_says 27 = .ok (.aload_n 0, 1) := by decide +kernel
theorem dX6_says_28 : decode cX6_says 28 = .ok (.getfield 23, 3) := by decide +kernel
theorem dX6_says_31 : decode cX6_says 31 = .ok (.iconst 0, 1) := by decide +kernel
theorem dX6_says_32 : decode cX6_says 32 = .ok (.iload_n 1, 1) := by decide +kernel
theorem dX6_says_33 : decode cX6_says 33 = .ok (.iastore, 1) := by decide +kernel
theorem dX6_says_34 : decode cX6_says 34 = .ok (.aload_n 0, 1) := by decide +kernel
theorem dX6_says_35 : decode cX6_says 35 = .ok (.getfield 23, 3) := by decide +kernel
theorem dX6_says_38 : decode cX6_says 38 = .ok (.iconst 1, 1) := by decide +kernel
theorem dX6_says_39 : decode cX6_says 39 = .ok (.iload_n 2, 1) := by decide +kernel
theorem dX6_says_40 : decode cX6_says 40 = .ok (.iastore, 1) := by decide +kernel
theorem dX6_says_41 : decode cX6_says 41 = .ok (.aload_n 0, 1) := by decide +kernel
theorem dX6_says_42 : decode cX6_says 42 = .ok (.getfield 23, 3) := by decide +kernel
theorem dX6_says_45 : decode cX6_says 45 = .ok (.iconst 2, 1) := by decide +kernel
theorem dX6_says_46 : decode cX6_says 46 = .ok (.iload_n 3, 1) := by decide +kernel
theorem dX6_says_47 : decode cX6_says 47 = .ok (.iastore, 1) := by decide +kernel
theorem dX6_says_48 : decode cX6_says 48 = .ok (.aload_n 0, 1) := by decide +kernel
theorem dX6_says_49 : decode cX6_says 49 = .ok (.getfield 23, 3) := by decide +kernel
theorem dX6_says_52 : decode cX6_says 52 = .ok (.iconst 3, 1) := by decide +kernel
theorem dX6_says_53 : decode cX6_says 53 = .ok (.iload 4, 2) := by decide +kernel
theorem dX6_says_55 : decode cX6_says 55 = .ok (.iastore, 1) := by decide +kernel
theorem dX6_says_56 : decode cX6_says 56 = .ok (.aload_n 0, 1) := by decide +kernel
theorem dX6_says_57 : decode cX6_says 57 = .ok (.getfield 23, 3) := by decide +kernel
theorem dX6_says_60 : decode cX6_says 60 = .ok (.iconst 4, 1) := by decide +kernel
theorem dX6_says_61 : decode cX6_says 61 = .ok (.iload 5, 2) := by decide +kernel
theorem dX6_says_63 : decode cX6_says 63 = .ok (.iastore, 1) := by decide +kernel
theorem dX6_says_64 : decode cX6_says 64 = .ok (.aload_n 0, 1) := by decide +kernel
theorem dX6_says_65 : decode cX6_says 65 = .ok (.getfield 23, 3) := by decide +kernel
theorem dX6_says_68 : decode cX6_says 68 = .ok (.iconst 5, 1) := by decide +kernel
theorem dX6_says_69 : decode cX6_says 69 = .ok (.iload 6, 2) := by decide +kernel
theorem dX6_says_71 : decode cX6_says 71 = .ok (.iastore, 1) := by decide +kernel
theorem dX6_says_72 : decode cX6_says 72 = .ok (.aload_n 0, 1) := by decide +kernel
theorem dX6_says_73 : decode cX6_says 73 = .ok (.invokevirtual 32, 3) := by decide +kernel
theorem dX6_says_76 : decode cX6_says 76 = .ok (.ifCond .eq 7, 3) := by decide +kernel
theorem dX6_says_79 : decode cX6_says 79 = .ok (.iconst 1, 1) := by decide +kernel
theorem dX6_says_80 : decode cX6_says 80 = .ok (.goto 4, 3) := by decide +kernel
theorem dX6_says_83 : decode cX6_says 83 = .ok (.iconst 0, 1) := by decide +kernel
theorem dX6_says_84 : decode cX6_says 84 = .ok (.ireturn, 1) := by decide +kernel
theorem dX6_lines_0 : decode cX6_lines 0 = .ok (.aload_n 0, 1) := by decide +kernel
theorem dX6_lines_1 : decode cX6_lines 1 = .ok (.iconst 0, 1) := by decide +kernel
theorem dX6_lines_2 : decode cX6_lines 2 = .ok (.putfield 26, 3) := by decide +kernel
theorem dX6_lines_5 : decode cX6_lines 5 = .ok (.aload_n 0, 1) := by decide +kernel
theorem dX6_lines_6 : decode cX6_lines 6 = .ok (.iconst (-1), 1) := by decide +kernel
theorem dX6_lines_7 : decode cX6_lines 7 = .ok (.putfield 29, 3) := by decide +kernel
theorem dX6_lines_10 : decode cX6_lines 10 = .ok (.iconst 0, 1) := by decide +kernel
theorem dX6_lines_11 : decode cX6_lines 11 = .ok (.istore_n 1, 1) := by decide +kernel
theorem dX6_lines_12 : decode cX6_lines 12 = .ok (.iconst 0, 1) := by decide +kernel
theorem dX6_lines_13 : decode cX6_lines 13 = .ok (.istore_n 2, 1) := by decide +kernel
theorem dX6_lines_14 : decode cX6_lines 14 = .ok (.iconst 0, 1) := by decide +kernel
theorem dX6_lines_15 : decode cX6_lines 15 = .ok (.istore_n 3, 1) := by decide +kernel
theorem dX6_lines_16 : decode cX6_lines 16 = .ok (.iload_n 3, 1) := by decide +kernel
theorem dX6_lines_17 : decode cX6_lines 17 = .ok (.bipush 120, 2) := by decide +kernel
theorem dX6_lines_19 : decode cX6_lines 19 = .ok (.if_icmp .ge 73, 3) := by decide +kernel
theorem dX6_lines_22 : decode cX6_lines 22 = .ok (.iload_n 3, 1) := by decide +kernel
theorem dX6_lines_23 : decode cX6_lines 23 = .ok (.ifCond .eq 12, 3) := by decide +kernel
theorem dX6_lines_26 : decode cX6_lines 26 = .ok (.aload_n 0, 1) := by decide +kernel
theorem dX6_lines_27 : decode cX6_lines 27 = .ok (.bipush 59, 2) := by decide +kernel
theorem dX6_lines_29 : decode cX6_lines 29 = .ok (.invokevirtual 36, 3) := by decide +kernel
theorem dX6_lines_32 : decode cX6_lines 32 = .ok (.ifCond .eq 60, 3) := by decide +kernel
theorem dX6_lines_35 : decode cX6_lines 35 = .ok (.aload_n 0, 1) := by decide +kernel
theorem dX6_lines_36 : decode cX6_lines 36 = .ok (.iconst 0, 1) := by decide +kernel
theorem dX6_lines_37 : decode cX6_lines 37 = .ok (.invokevirtual 40, 3) := by decide +kernel
theorem dX6_lines_40 : decode cX6_lines 40 = .ok (.istore 4, 2) := by decide +kernel
theorem dX6_lines_42 : decode cX6_lines 42 = .ok (.aload_n 0, 1) := by decide +kernel
theorem dX6_lines_43 : decode cX6_lines 43 = .ok (.bipush 63, 2) := by decide +kernel
theorem dX6_lines_45 : decode cX6_lines 45 = .ok (.invokevirtual 36, 3) := by decide +kernel
theorem dX6_lines_48 : decode cX6_lines 48 = .ok (.istore 5, 2) := by decide +kernel
theorem dX6_lines_50 : decode cX6_lines 50 = .ok (.iload 5, 2) := by decide +kernel
theorem dX6_lines_52 : decode cX6_lines 52 = .ok (.ifCond .eq 11, 3) := by decide +kernel
theorem dX6_lines_55 : decode cX6_lines 55 = .ok (.aload_n 0, 1) := by decide +kernel
theorem dX6_lines_56 : decode cX6_lines 56 = .ok (.iconst 0, 1) := by decide +kernel
theorem dX6_lines_57 : decode cX6_lines 57 = .ok (.invokevirtual 40, 3) := by decide +kernel
theorem dX6_lines_60 : decode cX6_lines 60 = .ok (.goto 5, 3) := by decide +kernel
theorem dX6_lines_63 : decode cX6_lines 63 = .ok (.iload 4, 2) := by decide +kernel
theorem dX6_lines_65 : decode cX6_lines 65 = .ok (.istore 6, 2) := by decide +kernel
theorem dX6_lines_67 : decode cX6_lines 67 = .ok (.iload_n 1, 1) := by decide +kernel
theorem dX6_lines_68 : decode cX6_lines 68 = .ok (.ifCond .ne 18, 3) := by decide +kernel
theorem dX6_lines_71 : decode cX6_lines 71 = .ok (.iload 5, 2) := by decide +kernel
theorem dX6_lines_73 : decode cX6_lines 73 = .ok (.ifCond .eq 8, 3) := by decide +kernel
theorem dX6_lines_76 : decode cX6_lines 76 = .ok (.iload 4, 2) := by decide +kernel
theorem dX6_lines_78 : decode cX6_lines 78 = .ok (.ifCond .eq 8, 3) := by decide +kernel
theorem dX6_lines_81 : decode cX6_lines 81 = .ok (.iconst 1, 1) := by decide +kernel
theorem dX6_lines_82 : decode cX6_lines 82 = .ok (.istore_n 1, 1) := by decide +kernel
theorem dX6_lines_83 : decode cX6_lines 83 = .ok (.iload 6, 2) := by decide +kernel
theorem dX6_lines_85 : decode cX6_lines 85 = .ok (.istore_n 2, 1) := by decide +kernel
theorem dX6_lines_86 : decode cX6_lines 86 = .ok (.iinc 3 1, 3) := by decide +kernel
theorem dX6_lines_89 : decode cX6_lines 89 = .ok (.goto (-73), 3) := by decide +kernel
theorem dX6_lines_92 : decode cX6_lines 92 = .ok (.aload_n 0, 1) := by decide +kernel
theorem dX6_lines_93 : decode cX6_lines 93 = .ok (.getfield 26, 3) := by decide +kernel
theorem dX6_lines_96 : decode cX6_lines 96 = .ok (.aload_n 0, 1) := by decide +kernel
theorem dX6_lines_97 : decode cX6_lines 97 = .ok (.getfield 20, 3) := by decide +kernel
theorem dX6_lines_100 : decode cX6_lines 100 = .ok (.if_icmp .ge 8, 3) := by decide +kernel
theorem dX6_lines_103 : decode cX6_lines 103 = .ok (.aload_n 0, 1) := by decide +kernel
theorem dX6_lines_104 : decode cX6_lines 104 = .ok (.invokevirtual 44, 3) := by decide +kernel
theorem dX6_lines_107 : decode cX6_lines 107 = .ok (.pop, 1) := by decide +kernel
theorem dX6_lines_108 : decode cX6_lines 108 = .ok (.iload_n 2, 1) := by decide +kernel
theorem dX6_lines_109 : decode cX6_lines 109 = .ok (.ireturn, 1) := by decide +kernel
theorem dX6_either_0 : decode cX6_either 0 = .ok (.aload_n 0, 1) := by decide +kernel
theorem dX6_either_1 : decode cX6_either 1 = .ok (.iload_n 1, 1) := by decide +kernel
theorem dX6_either_2 : decode cX6_either 2 = .ok (.invokevirtual 47, 3) := by decide +kernel
theorem dX6_either_5 : decode cX6_either 5 = .ok (.istore_n 2, 1) := by decide +kernel
theorem dX6_either_6 : decode cX6_either 6 = .ok (.iconst 0, 1) := by decide +kernel
theorem dX6_either_7 : decode cX6_either 7 = .ok (.istore_n 3, 1) := by decide +kernel
theorem dX6_either_8 : decode cX6_either 8 = .ok (.iload_n 3, 1) := by decide +kernel
theorem dX6_either_9 : decode cX6_either 9 = .ok (.bipush 120, 2) := by decide +kernel
theorem dX6_either_11 : decode cX6_either 11 = .ok (.if_icmp .ge 43, 3) := by decide +kernel
theorem dX6_either_14 : decode cX6_either 14 = .ok (.aload_n 0, 1) := by decide +kernel
theorem dX6_either_15 : decode cX6_either 15 = .ok (.bipush 124, 2) := by decide +kernel
theorem dX6_either_17 : decode cX6_either 17 = .ok (.invokevirtual 36, 3) := by decide +kernel
theorem dX6_either_20 : decode cX6_either 20 = .ok (.ifCond .eq 34, 3) := by decide +kernel
theorem dX6_either_23 : decode cX6_either 23 = .ok (.aload_n 0, 1) := by decide +kernel
theorem dX6_either_24 : decode cX6_either 24 = .ok (.iload_n 1, 1) := by decide +kernel
theorem dX6_either_25 : decode cX6_either 25 = .ok (.invokevirtual 47, 3) := by decide +kernel
theorem dX6_either_28 : decode cX6_either 28 = .ok (.istore 4, 2) := by decide +kernel
theorem dX6_either_30 : decode cX6_either 30 = .ok (.iload_n 2, 1) := by decide +kernel
theorem dX6_either_31 : decode cX6_either 31 = .ok (.ifCond .ne 8, 3) := by decide +kernel
theorem dX6_either_34 : decode cX6_either 34 = .ok (.iload 4, 2) := by decide +kernel
theorem dX6_either_36 : decode cX6_either 36 = .ok (.ifCond .eq 7, 3) := by decide +kernel
theorem dX6_either_39 : decode cX6_either 39 = .ok (.iconst 1, 1) := by decide +kernel
theorem dX6_either_40 : decode cX6_either 40 = .ok (.goto 4, 3) := by decide +kernel
theorem dX6_either_43 : decode cX6_either 43 = .ok (.iconst 0, 1) := by decide +kernel
theorem dX6_either_44 : decode cX6_either 44 = .ok (.invokestatic 50, 3) := by decide +kernel
theorem dX6_either_47 : decode cX6_either 47 = .ok (.istore_n 2, 1) := by decide +kernel
theorem dX6_either_48 : decode cX6_either 48 = .ok (.iinc 3 1, 3) := by decide +kernel
theorem dX6_either_51 : decode cX6_either 51 = .ok (.goto (-43), 3) := by decide +kernel
theorem dX6_either_54 : decode cX6_either 54 = .ok (.iload_n 2, 1) := by decide +kernel
theorem dX6_either_55 : decode cX6_either 55 = .ok (.ireturn, 1) := by decide +kernel
theorem dX6_both_0 : decode cX6_both 0 = .ok (.aload_n 0, 1) := by decide +kernel
theorem dX6_both_1 : decode cX6_both 1 = .ok (.iload_n 1, 1) := by decide +kernel
theorem dX6_both_2 : decode cX6_both 2 = .ok (.invokevirtual 54, 3) := by decide +kernel
theorem dX6_both_5 : decode cX6_both 5 = .ok (.istore_n 2, 1) := by decide +kernel
theorem dX6_both_6 : decode cX6_both 6 = .ok (.iconst 0, 1) := by decide +kernel
theorem dX6_both_7 : decode cX6_both 7 = .ok (.istore_n 3, 1) := by decide +kernel
theorem dX6_both_8 : decode cX6_both 8 = .ok (.iload_n 3, 1) := by decide +kernel
theorem dX6_both_9 : decode cX6_both 9 = .ok (.bipush 120, 2) := by decide +kernel
theorem dX6_both_11 : decode cX6_both 11 = .ok (.if_icmp .ge 43, 3) := by decide +kernel
theorem dX6_both_14 : decode cX6_both 14 = .ok (.aload_n 0, 1) := by decide +kernel
theorem dX6_both_15 : decode cX6_both 15 = .ok (.bipush 38, 2) := by decide +kernel
theorem dX6_both_17 : decode cX6_both 17 = .ok (.invokevirtual 36, 3) := by decide +kernel
theorem dX6_both_20 : decode cX6_both 20 = .ok (.ifCond .eq 34, 3) := by decide +kernel
theorem dX6_both_23 : decode cX6_both 23 = .ok (.aload_n 0, 1) := by decide +kernel
theorem dX6_both_24 : decode cX6_both 24 = .ok (.iload_n 1, 1) := by decide +kernel
theorem dX6_both_25 : decode cX6_both 25 = .ok (.invokevirtual 54, 3) := by decide +kernel
theorem dX6_both_28 : decode cX6_both 28 = .ok (.istore 4, 2) := by decide +kernel
theorem dX6_both_30 : decode cX6_both 30 = .ok (.iload_n 2, 1) := by decide +kernel
theorem dX6_both_31 : decode cX6_both 31 = .ok (.ifCond .eq 12, 3) := by decide +kernel
theorem dX6_both_34 : decode cX6_both 34 = .ok (.iload 4, 2) := by decide +kernel
theorem dX6_both_36 : decode cX6_both 36 = .ok (.ifCond .eq 7, 3) := by decide +kernel
theorem dX6_both_39 : decode cX6_both 39 = .ok (.iconst 1, 1) := by decide +kernel
theorem dX6_both_40 : decode cX6_both 40 = .ok (.goto 4, 3) := by decide +kernel
theorem dX6_both_43 : decode cX6_both 43 = .ok (.iconst 0, 1) := by decide +kernel
theorem dX6_both_44 : decode cX6_both 44 = .ok (.invokestatic 50, 3) := by decide +kernel
theorem dX6_both_47 : decode cX6_both 47 = .ok (.istore_n 2, 1) := by decide +kernel
theorem dX6_both_48 : decode cX6_both 48 = .ok (.iinc 3 1, 3) := by decide +kernel
theorem dX6_both_51 : decode cX6_both 51 = .ok (.goto (-43), 3) := by decide +kernel
theorem dX6_both_54 : decode cX6_both 54 = .ok (.iload_n 2, 1) := by decide +kernel
theorem dX6_both_55 : decode cX6_both 55 = .ok (.ireturn, 1) := by decide +kernel
theorem dX6_comparison_0 : decode cX6_comparison 0 = .ok (.aload_n 0, 1) := by decide +kernel
theorem dX6_comparison_1 : decode cX6_comparison 1 = .ok (.iload_n 1, 1) := by decide +kernel
theorem dX6_comparison_2 : decode cX6_comparison 2 = .ok (.invokevirtual 57, 3) := by decide +kernel
theorem dX6_comparison_5 : decode cX6_comparison 5 = .ok (.istore_n 2, 1) := by decide +kernel
theorem dX6_comparison_6 : decode cX6_comparison 6 = .ok (.aload_n 0, 1) := by decide +kernel
theorem dX6_comparison_7 : decode cX6_comparison 7 = .ok (.bipush 60, 2) := by decide +kernel
theorem dX6_comparison_9 : decode cX6_comparison 9 = .ok (.invokevirtual 36, 3) := by decide +kernel
theorem dX6_comparison_12 : decode cX6_comparison 12 = .ok (.ifCond .eq 21, 3) := by decide +kernel
theorem dX6_comparison_15 : decode cX6_comparison 15 = .ok (.iload_n 2, 1) := by decide +kernel
theorem dX6_comparison_16 : decode cX6_comparison 16 = .ok (.aload_n 0, 1) := by decide +kernel
theorem dX6_comparison_17 : decode cX6_comparison 17 = .ok (.iload_n 1, 1) := by decide +kernel
theorem dX6_comparison_18 : decode cX6_comparison 18 = .ok (.invokevirtual 57, 3) := by decide +kernel
theorem dX6_comparison_21 : decode cX6_comparison 21 = .ok (.if_icmp .ge 7, 3) := by decide +kernel
theorem dX6_comparison_24 : decode cX6_comparison 24 = .ok (.iconst 1, 1) := by decide +kernel
theorem dX6_comparison_25 : decode cX6_comparison 25 = .ok (.goto 4, 3) := by decide +kernel
theorem dX6_comparison_28 : decode cX6_comparison 28 = .ok (.iconst 0, 1) := by decide +kernel
theorem dX6_comparison_29 : decode cX6_comparison 29 = .ok (.invokestatic 50, 3) := by decide +kernel
theorem dX6_comparison_32 : decode cX6_comparison 32 = .ok (.ireturn, 1) := by decide +kernel
theorem dX6_comparison_33 : decode cX6_comparison 33 = .ok (.aload_n 0, 1) := by decide +kernel
theorem dX6_comparison_34 : decode cX6_comparison 34 = .ok (.bipush 61, 2) := by decide +kernel
theorem dX6_comparison_36 : decode cX6_comparison 36 = .ok (.invokevirtual 36, 3) := by decide +kernel
theorem dX6_comparison_39 : decode cX6_comparison 39 = .ok (.ifCond .eq 21, 3) := by decide +kernel
theorem dX6_comparison_42 : decode cX6_comparison 42 = .ok (.iload_n 2, 1) := by decide +kernel
theorem dX6_comparison_43 : decode cX6_comparison 43 = .ok (.aload_n 0, 1) := by decide +kernel
theorem dX6_comparison_44 : decode cX6_comparison 44 = .ok (.iload_n 1, 1) := by decide +kernel
theorem dX6_comparison_45 : decode cX6_comparison 45 = .ok (.invokevirtual 57, 3) := by decide +kernel
theorem dX6_comparison_48 : decode cX6_comparison 48 = .ok (.if_icmp .ne 7, 3) := by decide +kernel
theorem dX6_comparison_51 : decode cX6_comparison 51 = .ok (.iconst 1, 1) := by decide +kernel
theorem dX6_comparison_52 : decode cX6_comparison 52 = .ok (.goto 4, 3) := by decide +kernel
theorem dX6_comparison_55 : decode cX6_comparison 55 = .ok (.iconst 0, 1) := by decide +kernel
theorem dX6_comparison_56 : decode cX6_comparison 56 = .ok (.invokestatic 50, 3) := by decide +kernel
theorem dX6_comparison_59 : decode cX6_comparison 59 = .ok (.ireturn, 1) := by decide +kernel
theorem dX6_comparison_60 : decode cX6_comparison 60 = .ok (.aload_n 0, 1) := by decide +kernel
theorem dX6_comparison_61 : decode cX6_comparison 61 = .ok (.bipush 62, 2) := by decide +kernel
theorem dX6_comparison_63 : decode cX6_comparison 63 = .ok (.invokevirtual 36, 3) := by decide +kernel
theorem dX6_comparison_66 : decode cX6_comparison 66 = .ok (.ifCond .eq 21, 3) := by decide +kernel
theorem dX6_comparison_69 : decode cX6_comparison 69 = .ok (.iload_n 2, 1) := by decide +kernel
theorem dX6_comparison_70 : decode cX6_comparison 70 = .ok (.aload_n 0, 1) := by decide +kernel
theorem dX6_comparison_71 : decode cX6_comparison 71 = .ok (.iload_n 1, 1) := by decide +kernel
theorem dX6_comparison_72 : decode cX6_comparison 72 = .ok (.invokevirtual 57, 3) := by decide +kernel
theorem dX6_comparison_75 : decode cX6_comparison 75 = .ok (.if_icmp .le 7, 3) := by decide +kernel
theorem dX6_comparison_78 : decode cX6_comparison 78 = .ok (.iconst 1, 1) := by decide +kernel
theorem dX6_comparison_79 : decode cX6_comparison 79 = .ok (.goto 4, 3) := by decide +kernel
theorem dX6_comparison_82 : decode cX6_comparison 82 = .ok (.iconst 0, 1) := by decide +kernel
theorem dX6_comparison_83 : decode cX6_comparison 83 = .ok (.invokestatic 50, 3) := by decide +kernel
theorem dX6_comparison_86 : decode cX6_comparison 86 = .ok (.ireturn, 1) := by decide +kernel
theorem dX6_comparison_87 : decode cX6_comparison 87 = .ok (.iload_n 2, 1) := by decide +kernel
theorem dX6_comparison_88 : decode cX6_comparison 88 = .ok (.ireturn, 1) := by decide +kernel
theorem dX6_sum_0 : decode cX6_sum 0 = .ok (.aload_n 0, 1) := by decide +kernel
theorem dX6_sum_1 : decode cX6_sum 1 = .ok (.iload_n 1, 1) := by decide +kernel
theorem dX6_sum_2 : decode cX6_sum 2 = .ok (.invokevirtual 60, 3) := by decide +kernel
theorem dX6_sum_5 : decode cX6_sum 5 = .ok (.istore_n 2, 1) := by decide +kernel
theorem dX6_sum_6 : decode cX6_sum 6 = .ok (.iconst 0, 1) := by decide +kernel
theorem dX6_sum_7 : decode cX6_sum 7 = .ok (.istore_n 3, 1) := by decide +kernel
theorem dX6_sum_8 : decode cX6_sum 8 = .ok (.iload_n 3, 1) := by decide +kernel
theorem dX6_sum_9 : decode cX6_sum 9 = .ok (.bipush 120, 2) := by decide +kernel
theorem dX6_sum_11 : decode cX6_sum 11 = .ok (.if_icmp .ge 51, 3) := by decide +kernel
theorem dX6_sum_14 : decode cX6_sum 14 = .ok (.aload_n 0, 1) := by decide +kernel
theorem dX6_sum_15 : decode cX6_sum 15 = .ok (.bipush 43, 2) := by decide +kernel
theorem dX6_sum_17 : decode cX6_sum 17 = .ok (.invokevirtual 36, 3) := by decide +kernel
theorem dX6_sum_20 : decode cX6_sum 20 = .ok (.ifCond .eq 14, 3) := by decide +kernel
theorem dX6_sum_23 : decode cX6_sum 23 = .ok (.iload_n 2, 1) := by decide +kernel
theorem dX6_sum_24 : decode cX6_sum 24 = .ok (.aload_n 0, 1) := by decide +kernel
theorem dX6_sum_25 : decode cX6_sum 25 = .ok (.iload_n 1, 1) := by decide +kernel
theorem dX6_sum_26 : decode cX6_sum 26 = .ok (.invokevirtual 60, 3) := by decide +kernel
theorem dX6_sum_29 : decode cX6_sum 29 = .ok (.iadd, 1) := by decide +kernel
theorem dX6_sum_30 : decode cX6_sum 30 = .ok (.istore_n 2, 1) := by decide +kernel
theorem dX6_sum_31 : decode cX6_sum 31 = .ok (.goto 25, 3) := by decide +kernel
theorem dX6_sum_34 : decode cX6_sum 34 = .ok (.aload_n 0, 1) := by decide +kernel
theorem dX6_sum_35 : decode cX6_sum 35 = .ok (.bipush 45, 2) := by decide +kernel
theorem dX6_sum_37 : decode cX6_sum 37 = .ok (.invokevirtual 36, 3) := by decide +kernel
theorem dX6_sum_40 : decode cX6_sum 40 = .ok (.ifCond .eq 14, 3) := by decide +kernel
theorem dX6_sum_43 : decode cX6_sum 43 = .ok (.iload_n 2, 1) := by decide +kernel
theorem dX6_sum_44 : decode cX6_sum 44 = .ok (.aload_n 0, 1) := by decide +kernel
theorem dX6_sum_45 : decode cX6_sum 45 = .ok (.iload_n 1, 1) := by decide +kernel
theorem dX6_sum_46 : decode cX6_sum 46 = .ok (.invokevirtual 60, 3) := by decide +kernel
theorem dX6_sum_49 : decode cX6_sum 49 = .ok (.isub, 1) := by decide +kernel
theorem dX6_sum_50 : decode cX6_sum 50 = .ok (.istore_n 2, 1) := by decide +kernel
theorem dX6_sum_51 : decode cX6_sum 51 = .ok (.goto 5, 3) := by decide +kernel
theorem dX6_sum_54 : decode cX6_sum 54 = .ok (.iload_n 2, 1) := by decide +kernel
theorem dX6_sum_55 : decode cX6_sum 55 = .ok (.ireturn, 1) := by decide +kernel
theorem dX6_sum_56 : decode cX6_sum 56 = .ok (.iinc 3 1, 3) := by decide +kernel
theorem dX6_sum_59 : decode cX6_sum 59 = .ok (.goto (-51), 3) := by decide +kernel
theorem dX6_sum_62 : decode cX6_sum 62 = .ok (.iload_n 2, 1) := by decide +kernel
theorem dX6_sum_63 : decode cX6_sum 63 = .ok (.ireturn, 1) := by decide +kernel
theorem dX6_product_0 : decode cX6_product 0 = .ok (.aload_n 0, 1) := by decide +kernel
theorem dX6_product_1 : decode cX6_product 1 = .ok (.iload_n 1, 1) := by decide +kernel
theorem dX6_product_2 : decode cX6_product 2 = .ok (.invokevirtual 63, 3) := by decide +kernel
theorem dX6_product_5 : decode cX6_product 5 = .ok (.istore_n 2, 1) := by decide +kernel
theorem dX6_product_6 : decode cX6_product 6 = .ok (.iconst 0, 1) := by decide +kernel
theorem dX6_product_7 : decode cX6_product 7 = .ok (.istore_n 3, 1) := by decide +kernel
theorem dX6_product_8 : decode cX6_product 8 = .ok (.iload_n 3, 1) := by decide +kernel
theorem dX6_product_9 : decode cX6_product 9 = .ok (.bipush 120, 2) := by decide +kernel
theorem dX6_product_11 : decode cX6_product 11 = .ok (.if_icmp .ge 97, 3) := by decide +kernel
theorem dX6_product_14 : decode cX6_product 14 = .ok (.aload_n 0, 1) := by decide +kernel
theorem dX6_product_15 : decode cX6_product 15 = .ok (.bipush 42, 2) := by decide +kernel
theorem dX6_product_17 : decode cX6_product 17 = .ok (.invokevirtual 36, 3) := by decide +kernel
theorem dX6_product_20 : decode cX6_product 20 = .ok (.ifCond .eq 14, 3) := by decide +kernel
theorem dX6_product_23 : decode cX6_product 23 = .ok (.iload_n 2, 1) := by decide +kernel
theorem dX6_product_24 : decode cX6_product 24 = .ok (.aload_n 0, 1) := by decide +kernel
theorem dX6_product_25 : decode cX6_product 25 = .ok (.iload_n 1, 1) := by decide +kernel
theorem dX6_product_26 : decode cX6_product 26 = .ok (.invokevirtual 63, 3) := by decide +kernel
theorem dX6_product_29 : decode cX6_product 29 = .ok (.imul, 1) := by decide +kernel
theorem dX6_product_30 : decode cX6_product 30 = .ok (.istore_n 2, 1) := by decide +kernel
theorem dX6_product_31 : decode cX6_product 31 = .ok (.goto 71, 3) := by decide +kernel
theorem dX6_product_34 : decode cX6_product 34 = .ok (.aload_n 0, 1) := by decide +kernel
theorem dX6_product_35 : decode cX6_product 35 = .ok (.bipush 47, 2) := by decide +kernel
theorem dX6_product_37 : decode cX6_product 37 = .ok (.invokevirtual 36, 3) := by decide +kernel
theorem dX6_product_40 : decode cX6_product 40 = .ok (.ifCond .eq 27, 3) := by decide +kernel
theorem dX6_product_43 : decode cX6_product 43 = .ok (.aload_n 0, 1) := by decide +kernel
theorem dX6_product_44 : decode cX6_product 44 = .ok (.iload_n 1, 1) := by decide +kernel
theorem dX6_product_45 : decode cX6_product 45 = .ok (.invokevirtual 63, 3) := by decide +kernel
theorem dX6_product_48 : decode cX6_product 48 = .ok (.istore 4, 2) := by decide +kernel
theorem dX6_product_50 : decode cX6_product 50 = .ok (.iload 4, 2) := by decide +kernel
theorem dX6_product_52 : decode cX6_product 52 = .ok (.ifCond .ne 7, 3) := by decide +kernel
theorem dX6_product_55 : decode cX6_product 55 = .ok (.iconst 0, 1) := by decide +kernel
theorem dX6_product_56 : decode cX6_product 56 = .ok (.goto 7, 3) := by decide +kernel
theorem dX6_product_59 : decode cX6_product 59 = .ok (.iload_n 2, 1) := by decide +kernel
theorem dX6_product_60 : decode cX6_product 60 = .ok (.iload 4, 2) := by decide +kernel
theorem dX6_product_62 : decode cX6_product 62 = .ok (.idiv, 1) := by decide +kernel
theorem dX6_product_63 : decode cX6_product 63 = .ok (.istore_n 2, 1) := by decide +kernel
theorem dX6_product_64 : decode cX6_product 64 = .ok (.goto 38, 3) := by decide +kernel
theorem dX6_product_67 : decode cX6_product 67 = .ok (.aload_n 0, 1) := by decide +kernel
theorem dX6_product_68 : decode cX6_product 68 = .ok (.bipush 37, 2) := by decide +kernel
theorem dX6_product_70 : decode cX6_product 70 = .ok (.invokevirtual 36, 3) := by decide +kernel
theorem dX6_product_73 : decode cX6_product 73 = .ok (.ifCond .eq 27, 3) := by decide +kernel
theorem dX6_product_76 : decode cX6_product 76 = .ok (.aload_n 0, 1) := by decide +kernel
theorem dX6_product_77 : decode cX6_product 77 = .ok (.iload_n 1, 1) := by decide +kernel
theorem dX6_product_78 : decode cX6_product 78 = .ok (.invokevirtual 63, 3) := by decide +kernel
theorem dX6_product_81 : decode cX6_product 81 = .ok (.istore 4, 2) := by decide +kernel
theorem dX6_product_83 : decode cX6_product 83 = .ok (.iload 4, 2) := by decide +kernel
theorem dX6_product_85 : decode cX6_product 85 = .ok (.ifCond .ne 7, 3) := by decide +kernel
theorem dX6_product_88 : decode cX6_product 88 = .ok (.iconst 0, 1) := by decide +kernel
theorem dX6_product_89 : decode cX6_product 89 = .ok (.goto 7, 3) := by decide +kernel
theorem dX6_product_92 : decode cX6_product 92 = .ok (.iload_n 2, 1) := by decide +kernel
theorem dX6_product_93 : decode cX6_product 93 = .ok (.iload 4, 2) := by decide +kernel
theorem dX6_product_95 : decode cX6_product 95 = .ok (.irem, 1) := by decide +kernel
theorem dX6_product_96 : decode cX6_product 96 = .ok (.istore_n 2, 1) := by decide +kernel
theorem dX6_product_97 : decode cX6_product 97 = .ok (.goto 5, 3) := by decide +kernel
theorem dX6_product_100 : decode cX6_product 100 = .ok (.iload_n 2, 1) := by decide +kernel
theorem dX6_product_101 : decode cX6_product 101 = .ok (.ireturn, 1) := by decide +kernel
theorem dX6_product_102 : decode cX6_product 102 = .ok (.iinc 3 1, 3) := by decide +kernel
theorem dX6_product_105 : decode cX6_product 105 = .ok (.goto (-97), 3) := by decide +kernel
theorem dX6_product_108 : decode cX6_product 108 = .ok (.iload_n 2, 1) := by decide +kernel
theorem dX6_product_109 : decode cX6_product 109 = .ok (.ireturn, 1) := by decide +kernel
theorem dX6_operand_0 : decode cX6_operand 0 = .ok (.aload_n 0, 1) := by decide +kernel
theorem dX6_operand_1 : decode cX6_operand 1 = .ok (.invokevirtual 66, 3) := by decide +kernel
theorem dX6_operand_4 : decode cX6_operand 4 = .ok (.istore_n 2, 1) := by decide +kernel
theorem dX6_operand_5 : decode cX6_operand 5 = .ok (.iload_n 2, 1) := by decide +kernel
theorem dX6_operand_6 : decode cX6_operand 6 = .ok (.bipush 48, 2) := by decide +kernel
theorem dX6_operand_8 : decode cX6_operand 8 = .ok (.if_icmp .lt 14, 3) := by decide +kernel
theorem dX6_operand_11 : decode cX6_operand 11 = .ok (.iload_n 2, 1) := by decide +kernel
theorem dX6_operand_12 : decode cX6_operand 12 = .ok (.bipush 57, 2) := by decide +kernel
theorem dX6_operand_14 : decode cX6_operand 14 = .ok (.if_icmp .gt 8, 3) := by decide +kernel
theorem dX6_operand_17 : decode cX6_operand 17 = .ok (.aload_n 0, 1) := by decide +kernel
theorem dX6_operand_18 : decode cX6_operand 18 = .ok (.invokevirtual 69, 3) := by decide +kernel
theorem dX6_operand_21 : decode cX6_operand 21 = .ok (.ireturn, 1) := by decide +kernel
theorem dX6_operand_22 : decode cX6_operand 22 = .ok (.iload_n 2, 1) := by decide +kernel
theorem dX6_operand_23 : decode cX6_operand 23 = .ok (.invokestatic 72, 3) := by decide +kernel
theorem dX6_operand_26 : decode cX6_operand 26 = .ok (.istore_n 3, 1) := by decide +kernel
theorem dX6_operand_27 : decode cX6_operand 27 = .ok (.iload_n 3, 1) := by decide +kernel
theorem dX6_operand_28 : decode cX6_operand 28 = .ok (.ifCond .lt 20, 3) := by decide +kernel
theorem dX6_operand_31 : decode cX6_operand 31 = .ok (.aload_n 0, 1) := by decide +kernel
theorem dX6_operand_32 : decode cX6_operand 32 = .ok (.dup, 1) := by decide +kernel
theorem dX6_operand_33 : decode cX6_operand 33 = .ok (.getfield 26, 3) := by decide +kernel
theorem dX6_operand_36 : decode cX6_operand 36 = .ok (.iconst 1, 1) := by decide +kernel
theorem dX6_operand_37 : decode cX6_operand 37 = .ok (.iadd, 1) := by decide +kernel
theorem dX6_operand_38 : decode cX6_operand 38 = .ok (.putfield 26, 3) := by decide +kernel
theorem dX6_operand_41 : decode cX6_operand 41 = .ok (.aload_n 0, 1) := by decide +kernel
theorem dX6_operand_42 : decode cX6_operand 42 = .ok (.getfield 23, 3) := by decide +kernel
theorem dX6_operand_45 : decode cX6_operand 45 = .ok (.iload_n 3, 1) := by decide +kernel
theorem dX6_operand_46 : decode cX6_operand 46 = .ok (.iaload, 1) := by decide +kernel
theorem dX6_operand_47 : decode cX6_operand 47 = .ok (.ireturn, 1) := by decide +kernel
theorem dX6_operand_48 : decode cX6_operand 48 = .ok (.iload_n 1, 1) := by decide +kernel
theorem dX6_operand_49 : decode cX6_operand 49 = .ok (.bipush 6, 2) := by decide +kernel
theorem dX6_operand_51 : decode cX6_operand 51 = .ok (.if_icmp .lt 8, 3) := by decide +kernel
theorem dX6_operand_54 : decode cX6_operand 54 = .ok (.aload_n 0, 1) := by decide +kernel
theorem dX6_operand_55 : decode cX6_operand 55 = .ok (.invokevirtual 44, 3) := by decide +kernel
theorem dX6_operand_58 : decode cX6_operand 58 = .ok (.ireturn, 1) := by decide +kernel
theorem dX6_operand_59 : decode cX6_operand 59 = .ok (.aload_n 0, 1) := by decide +kernel
theorem dX6_operand_60 : decode cX6_operand 60 = .ok (.bipush 33, 2) := by decide +kernel
theorem dX6_operand_62 : decode cX6_operand 62 = .ok (.invokevirtual 36, 3) := by decide +kernel
theorem dX6_operand_65 : decode cX6_operand 65 = .ok (.ifCond .eq 22, 3) := by decide +kernel
theorem dX6_operand_68 : decode cX6_operand 68 = .ok (.aload_n 0, 1) := by decide +kernel
theorem dX6_operand_69 : decode cX6_operand 69 = .ok (.iload_n 1, 1) := by decide +kernel
theorem dX6_operand_70 : decode cX6_operand 70 = .ok (.iconst 1, 1) := by decide +kernel
theorem dX6_operand_71 : decode cX6_operand 71 = .ok (.iadd, 1) := by decide +kernel
theorem dX6_operand_72 : decode cX6_operand 72 = .ok (.invokevirtual 63, 3) := by decide +kernel
theorem dX6_operand_75 : decode cX6_operand 75 = .ok (.ifCond .ne 7, 3) := by decide +kernel
theorem dX6_operand_78 : decode cX6_operand 78 = .ok (.iconst 1, 1) := by decide +kernel
theorem dX6_operand_79 : decode cX6_operand 79 = .ok (.goto 4, 3) := by decide +kernel
theorem dX6_operand_82 : decode cX6_operand 82 = .ok (.iconst 0, 1) := by decide +kernel
theorem dX6_operand_83 : decode cX6_operand 83 = .ok (.invokestatic 50, 3) := by decide +kernel
theorem dX6_operand_86 : decode cX6_operand 86 = .ok (.ireturn, 1) := by decide +kernel
theorem dX6_operand_87 : decode cX6_operand 87 = .ok (.aload_n 0, 1) := by decide +kernel
theorem dX6_operand_88 : decode cX6_operand 88 = .ok (.bipush 45, 2) := by decide +kernel
theorem dX6_operand_90 : decode cX6_operand 90 = .ok (.invokevirtual 36, 3) := by decide +kernel
theorem dX6_operand_93 : decode cX6_operand 93 = .ok (.ifCond .eq 12, 3) := by decide +kernel
theorem dX6_operand_96 : decode cX6_operand 96 = .ok (.aload_n 0, 1) := by decide +kernel
theorem dX6_operand_97 : decode cX6_operand 97 = .ok (.iload_n 1, 1) := by decide +kernel
theorem dX6_operand_98 : decode cX6_operand 98 = .ok (.iconst 1, 1) := by decide +kernel
theorem dX6_operand_99 : decode cX6_operand 99 = .ok (.iadd, 1) := by decide +kernel
theorem dX6_operand_100 : decode cX6_operand 100 = .ok (.invokevirtual 63, 3) := by decide +kernel
theorem dX6_operand_103 : decode cX6_operand 103 = .ok (.ineg, 1) := by decide +kernel
theorem dX6_operand_104 : decode cX6_operand 104 = .ok (.ireturn, 1) := by decide +kernel
theorem dX6_operand_105 : decode cX6_operand 105 = .ok (.aload_n 0, 1) := by decide +kernel
theorem dX6_operand_106 : decode cX6_operand 106 = .ok (.bipush 40, 2) := by decide +kernel
theorem dX6_operand_108 : decode cX6_operand 108 = .ok (.invokevirtual 36, 3) := by decide +kernel
theorem dX6_operand_111 : decode cX6_operand 111 = .ok (.ifCond .ne 8, 3) := by decide +kernel
theorem dX6_operand_114 : decode cX6_operand 114 = .ok (.aload_n 0, 1) := by decide +kernel
theorem dX6_operand_115 : decode cX6_operand 115 = .ok (.invokevirtual 44, 3) := by decide +kernel
theorem dX6_operand_118 : decode cX6_operand 118 = .ok (.ireturn, 1) := by decide +kernel
theorem dX6_operand_119 : decode cX6_operand 119 = .ok (.aload_n 0, 1) := by decide +kernel
theorem dX6_operand_120 : decode cX6_operand 120 = .ok (.iload_n 1, 1) := by decide +kernel
theorem dX6_operand_121 : decode cX6_operand 121 = .ok (.iconst 1, 1) := by decide +kernel
theorem dX6_operand_122 : decode cX6_operand 122 = .ok (.iadd, 1) := by decide +kernel
theorem dX6_operand_123 : decode cX6_operand 123 = .ok (.invokevirtual 40, 3) := by decide +kernel
theorem dX6_operand_126 : decode cX6_operand 126 = .ok (.istore 4, 2) := by decide +kernel
theorem dX6_operand_128 : decode cX6_operand 128 = .ok (.aload_n 0, 1) := by decide +kernel
theorem dX6_operand_129 : decode cX6_operand 129 = .ok (.bipush 41, 2) := by decide +kernel
theorem dX6_operand_131 : decode cX6_operand 131 = .ok (.invokevirtual 36, 3) := by decide +kernel
theorem dX6_operand_134 : decode cX6_operand 134 = .ok (.ifCond .eq 8, 3) := by decide +kernel
theorem dX6_operand_137 : decode cX6_operand 137 = .ok (.iload 4, 2) := by decide +kernel
theorem dX6_operand_139 : decode cX6_operand 139 = .ok (.goto 7, 3) := by decide +kernel
theorem dX6_operand_142 : decode cX6_operand 142 = .ok (.aload_n 0, 1) := by decide +kernel
theorem dX6_operand_143 : decode cX6_operand 143 = .ok (.invokevirtual 44, 3) := by decide +kernel
theorem dX6_operand_146 : decode cX6_operand 146 = .ok (.ireturn, 1) := by decide +kernel
theorem dX6_number_0 : decode cX6_number 0 = .ok (.iconst 0, 1) := by decide +kernel
theorem dX6_number_1 : decode cX6_number 1 = .ok (.istore_n 1, 1) := by decide +kernel
theorem dX6_number_2 : decode cX6_number 2 = .ok (.iconst 0, 1) := by decide +kernel
theorem dX6_number_3 : decode cX6_number 3 = .ok (.istore_n 2, 1) := by decide +kernel
theorem dX6_number_4 : decode cX6_number 4 = .ok (.iload_n 2, 1) := by decide +kernel
theorem dX6_number_5 : decode cX6_number 5 = .ok (.iconst 4, 1) := by decide +kernel
theorem dX6_number_6 : decode cX6_number 6 = .ok (.if_icmp .ge 50, 3) := by decide +kernel
theorem dX6_number_9 : decode cX6_number 9 = .ok (.aload_n 0, 1) := by decide +kernel
theorem dX6_number_10 : decode cX6_number 10 = .ok (.invokevirtual 66, 3) := by decide +kernel
theorem dX6_number_13 : decode cX6_number 13 = .ok (.bipush 48, 2) := by decide +kernel
theorem dX6_number_15 : decode cX6_number 15 = .ok (.if_icmp .lt 41, 3) := by decide +kernel
theorem dX6_number_18 : decode cX6_number 18 = .ok (.aload_n 0, 1) := by decide +kernel
theorem dX6_number_19 : decode cX6_number 19 = .ok (.invokevirtual 66, 3) := by decide +kernel
theorem dX6_number_22 : decode cX6_number 22 = .ok (.bipush 57, 2) := by decide +kernel
theorem dX6_number_24 : decode cX6_number 24 = .ok (.if_icmp .gt 32, 3) := by decide +kernel
theorem dX6_number_27 : decode cX6_number 27 = .ok (.bipush 10, 2) := by decide +kernel
theorem dX6_number_29 : decode cX6_number 29 = .ok (.iload_n 1, 1) := by decide +kernel
theorem dX6_number_30 : decode cX6_number 30 = .ok (.imul, 1) := by decide +kernel
theorem dX6_number_31 : decode cX6_number 31 = .ok (.aload_n 0, 1) := by decide +kernel
theorem dX6_number_32 : decode cX6_number 32 = .ok (.invokevirtual 66, 3) := by decide +kernel
theorem dX6_number_35 : decode cX6_number 35 = .ok (.iadd, 1) := by decide +kernel
theorem dX6_number_36 : decode cX6_number 36 = .ok (.bipush 48, 2) := by decide +kernel
theorem dX6_number_38 : decode cX6_number 38 = .ok (.isub, 1) := by decide +kernel
theorem dX6_number_39 : decode cX6_number 39 = .ok (.istore_n 1, 1) := by decide +kernel
theorem dX6_number_40 : decode cX6_number 40 = .ok (.aload_n 0, 1) := by decide +kernel
theorem dX6_number_41 : decode cX6_number 41 = .ok (.dup, 1) := by decide +kernel
theorem dX6_number_42 : decode cX6_number 42 = .ok (.getfield 26, 3) := by decide +kernel
theorem dX6_number_45 : decode cX6_number 45 = .ok (.iconst 1, 1) := by decide +kernel
theorem dX6_number_46 : decode cX6_number 46 = .ok (.iadd, 1) := by decide +kernel
theorem dX6_number_47 : decode cX6_number 47 = .ok (.putfield 26, 3) := by decide +kernel
theorem dX6_number_50 : decode cX6_number 50 = .ok (.iinc 2 1, 3) := by decide +kernel
theorem dX6_number_53 : decode cX6_number 53 = .ok (.goto (-49), 3) := by decide +kernel
theorem dX6_number_56 : decode cX6_number 56 = .ok (.iload_n 1, 1) := by decide +kernel
theorem dX6_number_57 : decode cX6_number 57 = .ok (.ireturn, 1) := by decide +kernel
theorem dX6_nameOf_0 : decode cX6_nameOf 0 = .ok (.iload_n 0, 1) := by decide +kernel
theorem dX6_nameOf_1 : decode cX6_nameOf 1 = .ok (.tableswitch 99 104 121 #[89, 99, 99, 99, 99, 99, 97, 87, 93, 99, 99, 99, 99, 99, 95, 99, 99, 91], 87) := by decide +kernel
theorem dX6_nameOf_88 : decode cX6_nameOf 88 = .ok (.iconst 0, 1) := by decide +kernel
theorem dX6_nameOf_89 : decode cX6_nameOf 89 = .ok (.ireturn, 1) := by decide +kernel
theorem dX6_nameOf_90 : decode cX6_nameOf 90 = .ok (.iconst 1, 1) := by decide +kernel
theorem dX6_nameOf_91 : decode cX6_nameOf 91 = .ok (.ireturn, 1) := by decide +kernel
theorem dX6_nameOf_92 : decode cX6_nameOf 92 = .ok (.iconst 2, 1) := by decide +kernel
theorem dX6_nameOf_93 : decode cX6_nameOf 93 = .ok (.ireturn, 1) := by decide +kernel
theorem dX6_nameOf_94 : decode cX6_nameOf 94 = .ok (.iconst 3, 1) := by decide +kernel
theorem dX6_nameOf_95 : decode cX6_nameOf 95 = .ok (.ireturn, 1) := by decide +kernel
theorem dX6_nameOf_96 : decode cX6_nameOf 96 = .ok (.iconst 4, 1) := by decide +kernel
theorem dX6_nameOf_97 : decode cX6_nameOf 97 = .ok (.ireturn, 1) := by decide +kernel
theorem dX6_nameOf_98 : decode cX6_nameOf 98 = .ok (.iconst 5, 1) := by decide +kernel
theorem dX6_nameOf_99 : decode cX6_nameOf 99 = .ok (.ireturn, 1) := by decide +kernel
theorem dX6_nameOf_100 : decode cX6_nameOf 100 = .ok (.iconst (-1), 1) := by decide +kernel
theorem dX6_nameOf_101 : decode cX6_nameOf 101 = .ok (.ireturn, 1) := by decide +kernel
theorem dX6_truth_0 : decode cX6_truth 0 = .ok (.iload_n 0, 1) := by decide +kernel
theorem dX6_truth_1 : decode cX6_truth 1 = .ok (.ifCond .eq 7, 3) := by decide +kernel
theorem dX6_truth_4 : decode cX6_truth 4 = .ok (.iconst 1, 1) := by decide +kernel
theorem dX6_truth_5 : decode cX6_truth 5 = .ok (.goto 4, 3) := by decide +kernel
theorem dX6_truth_8 : decode cX6_truth 8 = .ok (.iconst 0, 1) := by decide +kernel
theorem dX6_truth_9 : decode cX6_truth 9 = .ok (.ireturn, 1) := by decide +kernel
theorem dX6_letter_0 : decode cX6_letter 0 = .ok (.aload_n 0, 1) := by decide +kernel
theorem dX6_letter_1 : decode cX6_letter 1 = .ok (.getfield 29, 3) := by decide +kernel
theorem dX6_letter_4 : decode cX6_letter 4 = .ok (.ifCond .ge 42, 3) := by decide +kernel
theorem dX6_letter_7 : decode cX6_letter 7 = .ok (.aload_n 0, 1) := by decide +kernel
theorem dX6_letter_8 : decode cX6_letter 8 = .ok (.getfield 26, 3) := by decide +kernel
theorem dX6_letter_11 : decode cX6_letter 11 = .ok (.ifCond .lt 35, 3) := by decide +kernel
theorem dX6_letter_14 : decode cX6_letter 14 = .ok (.aload_n 0, 1) := by decide +kernel
theorem dX6_letter_15 : decode cX6_letter 15 = .ok (.getfield 26, 3) := by decide +kernel
theorem dX6_letter_18 : decode cX6_letter 18 = .ok (.aload_n 0, 1) := by decide +kernel
theorem dX6_letter_19 : decode cX6_letter 19 = .ok (.getfield 20, 3) := by decide +kernel
theorem dX6_letter_22 : decode cX6_letter 22 = .ok (.if_icmp .ge 24, 3) := by decide +kernel
theorem dX6_letter_25 : decode cX6_letter 25 = .ok (.aload_n 0, 1) := by decide +kernel
theorem dX6_letter_26 : decode cX6_letter 26 = .ok (.getfield 26, 3) := by decide +kernel
theorem dX6_letter_29 : decode cX6_letter 29 = .ok (.bipush 120, 2) := by decide +kernel
theorem dX6_letter_31 : decode cX6_letter 31 = .ok (.if_icmp .ge 15, 3) := by decide +kernel
theorem dX6_letter_34 : decode cX6_letter 34 = .ok (.aload_n 0, 1) := by decide +kernel
theorem dX6_letter_35 : decode cX6_letter 35 = .ok (.getfield 17, 3) := by decide +kernel
theorem dX6_letter_38 : decode cX6_letter 38 = .ok (.aload_n 0, 1) := by decide +kernel
theorem dX6_letter_39 : decode cX6_letter 39 = .ok (.getfield 26, 3) := by decide +kernel
theorem dX6_letter_42 : decode cX6_letter 42 = .ok (.iaload, 1) := by decide +kernel
theorem dX6_letter_43 : decode cX6_letter 43 = .ok (.goto 4, 3) := by decide +kernel
theorem dX6_letter_46 : decode cX6_letter 46 = .ok (.iconst (-1), 1) := by decide +kernel
theorem dX6_letter_47 : decode cX6_letter 47 = .ok (.ireturn, 1) := by decide +kernel
theorem dX6_takes_0 : decode cX6_takes 0 = .ok (.aload_n 0, 1) := by decide +kernel
theorem dX6_takes_1 : decode cX6_takes 1 = .ok (.invokevirtual 66, 3) := by decide +kernel
theorem dX6_takes_4 : decode cX6_takes 4 = .ok (.iload_n 1, 1) := by decide +kernel
theorem dX6_takes_5 : decode cX6_takes 5 = .ok (.if_icmp .eq 5, 3) := by decide +kernel
theorem dX6_takes_8 : decode cX6_takes 8 = .ok (.iconst 0, 1) := by decide +kernel
theorem dX6_takes_9 : decode cX6_takes 9 = .ok (.ireturn, 1) := by decide +kernel
theorem dX6_takes_10 : decode cX6_takes 10 = .ok (.aload_n 0, 1) := by decide +kernel
theorem dX6_takes_11 : decode cX6_takes 11 = .ok (.dup, 1) := by decide +kernel
theorem dX6_takes_12 : decode cX6_takes 12 = .ok (.getfield 26, 3) := by decide +kernel
theorem dX6_takes_15 : decode cX6_takes 15 = .ok (.iconst 1, 1) := by decide +kernel
theorem dX6_takes_16 : decode cX6_takes 16 = .ok (.iadd, 1) := by decide +kernel
theorem dX6_takes_17 : decode cX6_takes 17 = .ok (.putfield 26, 3) := by decide +kernel
theorem dX6_takes_20 : decode cX6_takes 20 = .ok (.iconst 1, 1) := by decide +kernel
theorem dX6_takes_21 : decode cX6_takes 21 = .ok (.ireturn, 1) := by decide +kernel
theorem dX6_fails_0 : decode cX6_fails 0 = .ok (.aload_n 0, 1) := by decide +kernel
theorem dX6_fails_1 : decode cX6_fails 1 = .ok (.getfield 29, 3) := by decide +kernel
theorem dX6_fails_4 : decode cX6_fails 4 = .ok (.ifCond .ge 11, 3) := by decide +kernel
theorem dX6_fails_7 : decode cX6_fails 7 = .ok (.aload_n 0, 1) := by decide +kernel
theorem dX6_fails_8 : decode cX6_fails 8 = .ok (.aload_n 0, 1) := by decide +kernel
theorem dX6_fails_9 : decode cX6_fails 9 = .ok (.getfield 26, 3) := by decide +kernel
theorem dX6_fails_12 : decode cX6_fails 12 = .ok (.putfield 29, 3) := by decide +kernel
theorem dX6_fails_15 : decode cX6_fails 15 = .ok (.iconst 0, 1) := by decide +kernel
theorem dX6_fails_16 : decode cX6_fails 16 = .ok (.ireturn, 1) := by decide +kernel
theorem dX7_init_0 : decode cX7_init 0 = .ok (.aload_n 0, 1) := by decide +kernel
theorem dX7_init_1 : decode cX7_init 1 = .ok (.invokespecial 3, 3) := by decide +kernel
theorem dX7_init_4 : decode cX7_init 4 = .ok (.aload_n 0, 1) := by decide +kernel
theorem dX7_init_5 : decode cX7_init 5 = .ok (.bipush 7, 2) := by decide +kernel
theorem dX7_init_7 : decode cX7_init 7 = .ok (.newarray .int, 2) := by decide +kernel
theorem dX7_init_9 : decode cX7_init 9 = .ok (.putfield 11, 3) := by decide +kernel
theorem dX7_init_12 : decode cX7_init 12 = .ok (.aload_n 0, 1) := by decide +kernel
theorem dX7_init_13 : decode cX7_init 13 = .ok (.bipush 7, 2) := by decide +kernel
theorem dX7_init_15 : decode cX7_init 15 = .ok (.newarray .int, 2) := by decide +kernel
theorem dX7_init_17 : decode cX7_init 17 = .ok (.putfield 15, 3) := by decide +kernel
theorem dX7_init_20 : decode cX7_init 20 = .ok (.aload_n 0, 1) := by decide +kernel
theorem dX7_init_21 : decode cX7_init 21 = .ok (.iconst 0, 1) := by decide +kernel
theorem dX7_init_22 : decode cX7_init 22 = .ok (.putfield 18, 3) := by decide +kernel
theorem dX7_init_25 : decode cX7_init 25 = .ok (.aload_n 0, 1) := by decide +kernel
theorem dX7_init_26 : decode cX7_init 26 = .ok (.iconst 0, 1) := by decide +kernel
theorem dX7_init_27 : decode cX7_init 27 = .ok (.putfield 22, 3) := by decide +kernel
theorem dX7_init_30 : decode cX7_init 30 = .ok (.return_, 1) := by decide +kernel
theorem dX7_find_0 : decode cX7_find 0 = .ok (.aload_n 0, 1) := by decide +kernel
theorem dX7_find_1 : decode cX7_find 1 = .ok (.iload_n 2, 1) := by decide +kernel
theorem dX7_find_2 : decode cX7_find 2 = .ok (.iload_n 3, 1) := by decide +kernel
theorem dX7_find_3 : decode cX7_find 3 = .ok (.iload 4, 2) := by decide +kernel
theorem dX7_find_5 : decode cX7_find 5 = .ok (.invokevirtual 25, 3) := by decide +kernel
theorem dX7_find_8 : decode cX7_find 8 = .ok (.aload_n 0, 1) := by decide +kernel
theorem dX7_find_9 : decode cX7_find 9 = .ok (.aload_n 0, 1) := by decide +kernel
theorem dX7_find_10 : decode cX7_find 10 = .ok (.aload_n 1, 1) := by decide +kernel
theorem dX7_find_11 : decode cX7_find 11 = .ok (.invokevirtual 29, 3) := by decide +kernel
theorem dX7_find_14 : decode cX7_find 14 = .ok (.putfield 22, 3) := by decide +kernel
theorem dX7_find_17 : decode cX7_find 17 = .ok (.aload_n 0, 1) := by decide +kernel
theorem dX7_find_18 : decode cX7_find 18 = .ok (.invokevirtual 33, 3) := by decide +kernel
theorem dX7_find_21 : decode cX7_find 21 = .ok (.iconst 1, 1) := by decide +kernel
theorem dX7_find_22 : decode cX7_find 22 = .ok (.istore 5, 2) := by decide +kernel
theorem dX7_find_24 : decode cX7_find 24 = .ok (.iload 5, 2) := by decide +kernel
theorem dX7_find_26 : decode cX7_find 26 = .ok (.bipush 120, 2) := by decide +kernel
theorem dX7_find_28 : decode cX7_find 28 = .ok (.if_icmp .ge 42, 3) := by decide +kernel
theorem dX7_find_31 : decode cX7_find 31 = .ok (.aload_n 0, 1) := by decide +kernel
theorem dX7_find_32 : decode cX7_find 32 = .ok (.invokevirtual 36, 3) := by decide +kernel
theorem dX7_find_35 : decode cX7_find 35 = .ok (.ifCond .eq 35, 3) := by decide +kernel
theorem dX7_find_38 : decode cX7_find 38 = .ok (.aload_n 0, 1) := by decide +kernel
theorem dX7_find_39 : decode cX7_find 39 = .ok (.aload_n 1, 1) := by decide +kernel
theorem dX7_find_40 : decode cX7_find 40 = .ok (.invokevirtual 29, 3) := by decide +kernel
theorem dX7_find_43 : decode cX7_find 43 = .ok (.istore 6, 2) := by decide +kernel
theorem dX7_find_45 : decode cX7_find 45 = .ok (.iload 6, 2) := by decide +kernel
theorem dX7_find_47 : decode cX7_find 47 = .ok (.aload_n 0, 1) := by decide +kernel
theorem dX7_find_48 : decode cX7_find 48 = .ok (.getfield 22, 3) := by decide +kernel
theorem dX7_find_51 : decode cX7_find 51 = .ok (.if_icmp .ge 13, 3) := by decide +kernel
theorem dX7_find_54 : decode cX7_find 54 = .ok (.aload_n 0, 1) := by decide +kernel
theorem dX7_find_55 : decode cX7_find 55 = .ok (.iload 6, 2) := by decide +kernel
theorem dX7_find_57 : decode cX7_find 57 = .ok (.putfield 22, 3) := by decide +kernel
theorem dX7_find_60 : decode cX7_find 60 = .ok (.aload_n 0, 1) := by decide +kernel
theorem dX7_find_61 : decode cX7_find 61 = .ok (.invokevirtual 33, 3) := by decide +kernel
theorem dX7_find_64 : decode cX7_find 64 = .ok (.iinc 5 1, 3) := by decide +kernel
theorem dX7_find_67 : decode cX7_find 67 = .ok (.goto (-43), 3) := by decide +kernel
theorem dX7_find_70 : decode cX7_find 70 = .ok (.return_, 1) := by decide +kernel
theorem dX7_begin_0 : decode cX7_begin 0 = .ok (.aload_n 0, 1) := by decide +kernel
theorem dX7_begin_1 : decode cX7_begin 1 = .ok (.getfield 11, 3) := by decide +kernel
theorem dX7_begin_4 : decode cX7_begin 4 = .ok (.iconst 0, 1) := by decide +kernel
theorem dX7_begin_5 : decode cX7_begin 5 = .ok (.iload_n 1, 1) := by decide +kernel
theorem dX7_begin_6 : decode cX7_begin 6 = .ok (.iastore, 1) := by decide +kernel
theorem dX7_begin_7 : decode cX7_begin 7 = .ok (.aload_n 0, 1) := by decide +kernel
theorem dX7_begin_8 : decode cX7_begin 8 = .ok (.iconst 1, 1) := by decide +kernel
theorem dX7_begin_9 : decode cX7_begin 9 = .ok (.putfield 18, 3) := by decide +kernel
theorem dX7_begin_12 : decode cX7_begin 12 = .ok (.iconst 0, 1) := by decide +kernel
theorem dX7_begin_13 : decode cX7_begin 13 = .ok (.istore 4, 2) := by decide +kernel
theorem dX7_begin_15 : decode cX7_begin 15 = .ok (.iload 4, 2) := by decide +kernel
theorem dX7_begin_17 : decode cX7_begin 17 = .ok (.bipush 6, 2) := by decide +kernel
theorem dX7_begin_19 : decode cX7_begin 19 = .ok (.if_icmp .ge 61, 3) := by decide +kernel
theorem dX7_begin_22 : decode cX7_begin 22 = .ok (.aload_n 0, 1) := by decide +kernel
theorem dX7_begin_23 : decode cX7_begin 23 = .ok (.getfield 18, 3) := by decide +kernel
theorem dX7_begin_26 : decode cX7_begin 26 = .ok (.bipush 6, 2) := by decide +kernel
theorem dX7_begin_28 : decode cX7_begin 28 = .ok (.if_icmp .ge 52, 3) := by decide +kernel
theorem dX7_begin_31 : decode cX7_begin 31 = .ok (.iload_n 3, 1) := by decide +kernel
theorem dX7_begin_32 : decode cX7_begin 32 = .ok (.iload 4, 2) := by decide +kernel
theorem dX7_begin_34 : decode cX7_begin 34 = .ok (.ishr, 1) := by decide +kernel
theorem dX7_begin_35 : decode cX7_begin 35 = .ok (.iconst 1, 1) := by decide +kernel
theorem dX7_begin_36 : decode cX7_begin 36 = .ok (.iand, 1) := by decide +kernel
theorem dX7_begin_37 : decode cX7_begin 37 = .ok (.iconst 1, 1) := by decide +kernel
theorem dX7_begin_38 : decode cX7_begin 38 = .ok (.if_icmp .ne 36, 3) := by decide +kernel
theorem dX7_begin_41 : decode cX7_begin 41 = .ok (.iload 4, 2) := by decide +kernel
theorem dX7_begin_43 : decode cX7_begin 43 = .ok (.iload_n 1, 1) := by decide +kernel
theorem dX7_begin_44 : decode cX7_begin 44 = .ok (.if_icmp .eq 30, 3) := by decide +kernel
theorem dX7_begin_47 : decode cX7_begin 47 = .ok (.iload 4, 2) := by decide +kernel
theorem dX7_begin_49 : decode cX7_begin 49 = .ok (.iload_n 2, 1) := by decide +kernel
theorem dX7_begin_50 : decode cX7_begin 50 = .ok (.if_icmp .eq 24, 3) := by decide +kernel
theorem dX7_begin_53 : decode cX7_begin 53 = .ok (.aload_n 0, 1) := by decide +kernel
theorem dX7_begin_54 : decode cX7_begin 54 = .ok (.getfield 11, 3) := by decide +kernel
theorem dX7_begin_57 : decode cX7_begin 57 = .ok (.aload_n 0, 1) := by decide +kernel
theorem dX7_begin_58 : decode cX7_begin 58 = .ok (.getfield 18, 3) := by decide +kernel
theorem dX7_begin_61 : decode cX7_begin 61 = .ok (.iload 4, 2) := by decide +kernel
theorem dX7_begin_63 : decode cX7_begin 63 = .ok (.iastore, 1) := by decide +kernel
theorem dX7_begin_64 : decode cX7_begin 64 = .ok (.aload_n 0, 1) := by decide +kernel
theorem dX7_begin_65 : decode cX7_begin 65 = .ok (.dup, 1) := by decide +kernel
theorem dX7_begin_66 : decode cX7_begin 66 = .ok (.getfield 18, 3) := by decide +kernel
theorem dX7_begin_69 : decode cX7_begin 69 = .ok (.iconst 1, 1) := by decide +kernel
theorem dX7_begin_70 : decode cX7_begin 70 = .ok (.iadd, 1) := by decide +kernel
theorem dX7_begin_71 : decode cX7_begin 71 = .ok (.putfield 18, 3) := by decide +kernel
theorem dX7_begin_74 : decode cX7_begin 74 = .ok (.iinc 4 1, 3) := by decide +kernel
theorem dX7_begin_77 : decode cX7_begin 77 = .ok (.goto (-62), 3) := by decide +kernel
theorem dX7_begin_80 : decode cX7_begin 80 = .ok (.aload_n 0, 1) := by decide +kernel
theorem dX7_begin_81 : decode cX7_begin 81 = .ok (.getfield 11, 3) := by decide +kernel
theorem dX7_begin_84 : decode cX7_begin 84 = .ok (.aload_n 0, 1) := by decide +kernel
theorem dX7_begin_85 : decode cX7_begin 85 = .ok (.getfield 18, 3) := by decide +kernel
theorem dX7_begin_88 : decode cX7_begin 88 = .ok (.iload_n 2, 1) := by decide +kernel
theorem dX7_begin_89 : decode cX7_begin 89 = .ok (.iastore, 1) := by decide +kernel
theorem dX7_begin_90 : decode cX7_begin 90 = .ok (.aload_n 0, 1) := by decide +kernel
theorem dX7_begin_91 : decode cX7_begin 91 = .ok (.dup, 1) := by decide +kernel
theorem dX7_begin_92 : decode cX7_begin 92 = .ok (.getfield 18, 3) := by decide +kernel
theorem dX7_begin_95 : decode cX7_begin 95 = .ok (.iconst 1, 1) := by decide +kernel
theorem dX7_begin_96 : decode cX7_begin 96 = .ok (.iadd, 1) := by decide +kernel
theorem dX7_begin_97 : decode cX7_begin 97 = .ok (.putfield 18, 3) := by decide +kernel
theorem dX7_begin_100 : decode cX7_begin 100 = .ok (.return_, 1) := by decide +kernel
theorem dX7_yardsOf_0 : decode cX7_yardsOf 0 = .ok (.iconst 0, 1) := by decide +kernel
theorem dX7_yardsOf_1 : decode cX7_yardsOf 1 = .ok (.istore_n 2, 1) := by decide +kernel
theorem dX7_yardsOf_2 : decode cX7_yardsOf 2 = .ok (.iconst 1, 1) := by decide +kernel
theorem dX7_yardsOf_3 : decode cX7_yardsOf 3 = .ok (.istore_n 3, 1) := by decide +kernel
theorem dX7_yardsOf_4 : decode cX7_yardsOf 4 = .ok (.iload_n 3, 1) := by decide +kernel
theorem dX7_yardsOf_5 : decode cX7_yardsOf 5 = .ok (.aload_n 0, 1) := by decide +kernel
theorem dX7_yardsOf_6 : decode cX7_yardsOf 6 = .ok (.getfield 18, 3) := by decide +kernel
theorem dX7_yardsOf_9 : decode cX7_yardsOf 9 = .ok (.if_icmp .ge 36, 3) := by decide +kernel
theorem dX7_yardsOf_12 : decode cX7_yardsOf 12 = .ok (.iload_n 3, 1) := by decide +kernel
theorem dX7_yardsOf_13 : decode cX7_yardsOf 13 = .ok (.bipush 7, 2) := by decide +kernel
theorem dX7_yardsOf_15 : decode cX7_yardsOf 15 = .ok (.if_icmp .ge 30, 3) := by decide +kernel
theorem dX7_yardsOf_18 : decode cX7_yardsOf 18 = .ok (.iload_n 2, 1) := by decide +kernel
theorem dX7_yardsOf_19 : decode cX7_yardsOf 19 = .ok (.aload_n 1, 1) := by decide +kernel
theorem dX7_yardsOf_20 : decode cX7_yardsOf 20 = .ok (.aload_n 0, 1) := by decide +kernel
theorem dX7_yardsOf_21 : decode cX7_yardsOf 21 = .ok (.getfield 11, 3) := by decide +kernel
theorem dX7_yardsOf_24 : decode cX7_yardsOf 24 = .ok (.iload_n 3, 1) := by decide +kernel
theorem dX7_yardsOf_25 : decode cX7_yardsOf 25 = .ok (.iconst 1, 1) := by decide +kernel
theorem dX7_yardsOf_26 : decode cX7_yardsOf 26 = .ok (.isub, 1) := by decide +kernel
theorem dX7_yardsOf_27 : decode cX7_yardsOf 27 = .ok (.iaload, 1) := by decide +kernel
theorem dX7_yardsOf_28 : decode cX7_yardsOf 28 = .ok (.aload_n 0, 1) := by decide +kernel
theorem dX7_yardsOf_29 : decode cX7_yardsOf 29 = .ok (.getfield 11, 3) := by decide +kernel
theorem dX7_yardsOf_32 : decode cX7_yardsOf 32 = .ok (.iload_n 3, 1) := by decide +kernel
theorem dX7_yardsOf_33 : decode cX7_yardsOf 33 = .ok (.iaload, 1) := by decide +kernel
theorem dX7_yardsOf_34 : decode cX7_yardsOf 34 = .ok (.invokevirtual 40, 3) := by decide +kernel
theorem dX7_yardsOf_37 : decode cX7_yardsOf 37 = .ok (.iadd, 1) := by decide +kernel
theorem dX7_yardsOf_38 : decode cX7_yardsOf 38 = .ok (.istore_n 2, 1) := by decide +kernel
theorem dX7_yardsOf_39 : decode cX7_yardsOf 39 = .ok (.iinc 3 1, 3) := by decide +kernel
theorem dX7_yardsOf_42 : decode cX7_yardsOf 42 = .ok (.goto (-38), 3) := by decide +kernel
theorem dX7_yardsOf_45 : decode cX7_yardsOf 45 = .ok (.iload_n 2, 1) := by decide +kernel
theorem dX7_yardsOf_46 : decode cX7_yardsOf 46 = .ok (.ireturn, 1) := by decide +kernel
theorem dX7_keepOrder_0 : decode cX7_keepOrder 0 = .ok (.iconst 0, 1) := by decide +kernel
theorem dX7_keepOrder_1 : decode cX7_keepOrder 1 = .ok (.istore_n 1, 1) := by decide +kernel
theorem dX7_keepOrder_2 : decode cX7_keepOrder 2 = .ok (.iload_n 1, 1) := by decide +kernel
theorem dX7_keepOrder_3 : decode cX7_keepOrder 3 = .ok (.bipush 7, 2) := by decide +kernel
theorem dX7_keepOrder_5 : decode cX7_keepOrder 5 = .ok (.if_icmp .ge 21, 3) := by decide +kernel
theorem dX7_keepOrder_8 : decode cX7_keepOrder 8 = .ok (.aload_n 0, 1) := by decide +kernel
theorem dX7_keepOrder_9 : decode cX7_keepOrder 9 = .ok (.getfield 15, 3) := by decide +kernel
theorem dX7_keepOrder_12 : decode cX7_keepOrder 12 = .ok (.iload_n 1, 1) := by decide +kernel
theorem dX7_keepOrder_13 : decode cX7_keepOrder 13 = .ok (.aload_n 0, 1) := by decide +kernel
theorem dX7_keepOrder_14 : decode cX7_keepOrder 14 = .ok (.getfield 11, 3) := by decide +kernel
theorem dX7_keepOrder_17 : decode cX7_keepOrder 17 = .ok (.iload_n 1, 1) := by decide +kernel
theorem dX7_keepOrder_18 : decode cX7_keepOrder 18 = .ok (.iaload, 1) := by decide +kernel
theorem dX7_keepOrder_19 : decode cX7_keepOrder 19 = .ok (.iastore, 1) := by decide +kernel
theorem dX7_keepOrder_20 : decode cX7_keepOrder 20 = .ok (.iinc 1 1, 3) := by decide +kernel
theorem dX7_keepOrder_23 : decode cX7_keepOrder 23 = .ok (.goto (-21), 3) := by decide +kernel
theorem dX7_keepOrder_26 : decode cX7_keepOrder 26 = .ok (.return_, 1) := by decide +kernel
theorem dX7_nextOrder_0 : decode cX7_nextOrder 0 = .ok (.aload_n 0, 1) := by decide +kernel
theorem dX7_nextOrder_1 : decode cX7_nextOrder 1 = .ok (.getfield 18, 3) := by decide +kernel
theorem dX7_nextOrder_4 : decode cX7_nextOrder 4 = .ok (.iconst 2, 1) := by decide +kernel
theorem dX7_nextOrder_5 : decode cX7_nextOrder 5 = .ok (.isub, 1) := by decide +kernel
theorem dX7_nextOrder_6 : decode cX7_nextOrder 6 = .ok (.istore_n 1, 1) := by decide +kernel
theorem dX7_nextOrder_7 : decode cX7_nextOrder 7 = .ok (.iload_n 1, 1) := by decide +kernel
theorem dX7_nextOrder_8 : decode cX7_nextOrder 8 = .ok (.istore_n 2, 1) := by decide +kernel
theorem dX7_nextOrder_9 : decode cX7_nextOrder 9 = .ok (.iload_n 2, 1) := by decide +kernel
theorem dX7_nextOrder_10 : decode cX7_nextOrder 10 = .ok (.iconst 1, 1) := by decide +kernel
theorem dX7_nextOrder_11 : decode cX7_nextOrder 11 = .ok (.if_icmp .le 26, 3) := by decide +kernel
theorem dX7_nextOrder_14 : decode cX7_nextOrder 14 = .ok (.aload_n 0, 1) := by decide +kernel
theorem dX7_nextOrder_15 : decode cX7_nextOrder 15 = .ok (.getfield 11, 3) := by decide +kernel
theorem dX7_nextOrder_18 : decode cX7_nextOrder 18 = .ok (.iload_n 2, 1) := by decide +kernel
theorem dX7_nextOrder_19 : decode cX7_nextOrder 19 = .ok (.iconst 1, 1) := by decide +kernel
theorem dX7_nextOrder_20 : decode cX7_nextOrder 20 = .ok (.isub, 1) := by decide +kernel
theorem dX7_nextOrder_21 : decode cX7_nextOrder 21 = .ok (.iaload, 1) := by decide +kernel
theorem dX7_nextOrder_22 : decode cX7_nextOrder 22 = .ok (.aload_n 0, 1) := by decide +kernel
theorem dX7_nextOrder_23 : decode cX7_nextOrder 23 = .ok (.getfield 11, 3) := by decide +kernel
theorem dX7_nextOrder_26 : decode cX7_nextOrder 26 = .ok (.iload_n 2, 1) := by decide +kernel
theorem dX7_nextOrder_27 : decode cX7_nextOrder 27 = .ok (.iaload, 1) := by decide +kernel
theorem dX7_nextOrder_28 : decode cX7_nextOrder 28 = .ok (.if_icmp .le 9, 3) := by decide +kernel
theorem dX7_nextOrder_31 : decode cX7_nextOrder 31 = .ok (.iinc 2 (-1), 3) := by decide +kernel
theorem dX7_nextOrder_34 : decode cX7_nextOrder 34 = .ok (.goto (-25), 3) := by decide +kernel
theorem dX7_nextOrder_37 : decode cX7_nextOrder 37 = .ok (.iload_n 2, 1) := by decide +kernel
theorem dX7_nextOrder_38 : decode cX7_nextOrder 38 = .ok (.iconst 1, 1) := by decide +kernel
theorem dX7_nextOrder_39 : decode cX7_nextOrder 39 = .ok (.if_icmp .gt 5, 3) := by decide +kernel
theorem dX7_nextOrder_42 : decode cX7_nextOrder 42 = .ok (.iconst 0, 1) := by decide +kernel
theorem dX7_nextOrder_43 : decode cX7_nextOrder 43 = .ok (.ireturn, 1) := by decide +kernel
theorem dX7_nextOrder_44 : decode cX7_nextOrder 44 = .ok (.iload_n 1, 1) := by decide +kernel
theorem dX7_nextOrder_45 : decode cX7_nextOrder 45 = .ok (.istore_n 3, 1) := by decide +kernel
theorem dX7_nextOrder_46 : decode cX7_nextOrder 46 = .ok (.iload_n 3, 1) := by decide +kernel
theorem dX7_nextOrder_47 : decode cX7_nextOrder 47 = .ok (.iload_n 2, 1) := by decide +kernel
theorem dX7_nextOrder_48 : decode cX7_nextOrder 48 = .ok (.if_icmp .le 26, 3) := by decide +kernel
theorem dX7_nextOrder_51 : decode cX7_nextOrder 51 = .ok (.aload_n 0, 1) := by decide +kernel
theorem dX7_nextOrder_52 : decode cX7_nextOrder 52 = .ok (.getfield 11, 3) := by decide +kernel
theorem dX7_nextOrder_55 : decode cX7_nextOrder 55 = .ok (.iload_n 3, 1) := by decide +kernel
theorem dX7_nextOrder_56 : decode cX7_nextOrder 56 = .ok (.iaload, 1) := by decide +kernel
theorem dX7_nextOrder_57 : decode cX7_nextOrder 57 = .ok (.aload_n 0, 1) := by decide +kernel
theorem dX7_nextOrder_58 : decode cX7_nextOrder 58 = .ok (.getfield 11, 3) := by decide +kernel
theorem dX7_nextOrder_61 : decode cX7_nextOrder 61 = .ok (.iload_n 2, 1) := by decide +kernel
theorem dX7_nextOrder_62 : decode cX7_nextOrder 62 = .ok (.iconst 1, 1) := by decide +kernel
theorem dX7_nextOrder_63 : decode cX7_nextOrder 63 = .ok (.isub, 1) := by decide +kernel
theorem dX7_nextOrder_64 : decode cX7_nextOrder 64 = .ok (.iaload, 1) := by decide +kernel
theorem dX7_nextOrder_65 : decode cX7_nextOrder 65 = .ok (.if_icmp .ge 9, 3) := by decide +kernel
theorem dX7_nextOrder_68 : decode cX7_nextOrder 68 = .ok (.iinc 3 (-1), 3) := by decide +kernel
theorem dX7_nextOrder_71 : decode cX7_nextOrder 71 = .ok (.goto (-25), 3) := by decide +kernel
theorem dX7_nextOrder_74 : decode cX7_nextOrder 74 = .ok (.aload_n 0, 1) := by decide +kernel
theorem dX7_nextOrder_75 : decode cX7_nextOrder 75 = .ok (.iload_n 2, 1) := by decide +kernel
theorem dX7_nextOrder_76 : decode cX7_nextOrder 76 = .ok (.iconst 1, 1) := by decide +kernel
theorem dX7_nextOrder_77 : decode cX7_nextOrder 77 = .ok (.isub, 1) := by decide +kernel
theorem dX7_nextOrder_78 : decode cX7_nextOrder 78 = .ok (.iload_n 3, 1) := by decide +kernel
theorem dX7_nextOrder_79 : decode cX7_nextOrder 79 = .ok (.invokevirtual 45, 3) := by decide +kernel
theorem dX7_nextOrder_82 : decode cX7_nextOrder 82 = .ok (.iconst 0, 1) := by decide +kernel
theorem dX7_nextOrder_83 : decode cX7_nextOrder 83 = .ok (.istore 4, 2) := by decide +kernel
theorem dX7_nextOrder_85 : decode cX7_nextOrder 85 = .ok (.iload_n 2, 1) := by decide +kernel
theorem dX7_nextOrder_86 : decode cX7_nextOrder 86 = .ok (.iload 4, 2) := by decide +kernel
theorem dX7_nextOrder_88 : decode cX7_nextOrder 88 = .ok (.iadd, 1) := by decide +kernel
theorem dX7_nextOrder_89 : decode cX7_nextOrder 89 = .ok (.iload_n 1, 1) := by decide +kernel
theorem dX7_nextOrder_90 : decode cX7_nextOrder 90 = .ok (.iload 4, 2) := by decide +kernel
theorem dX7_nextOrder_92 : decode cX7_nextOrder 92 = .ok (.isub, 1) := by decide +kernel
theorem dX7_nextOrder_93 : decode cX7_nextOrder 93 = .ok (.if_icmp .ge 21, 3) := by decide +kernel
theorem dX7_nextOrder_96 : decode cX7_nextOrder 96 = .ok (.aload_n 0, 1) := by decide +kernel
theorem dX7_nextOrder_97 : decode cX7_nextOrder 97 = .ok (.iload_n 2, 1) := by decide +kernel
theorem dX7_nextOrder_98 : decode cX7_nextOrder 98 = .ok (.iload 4, 2) := by decide +kernel
theorem dX7_nextOrder_100 : decode cX7_nextOrder 100 = .ok (.iadd, 1) := by decide +kernel
theorem dX7_nextOrder_101 : decode cX7_nextOrder 101 = .ok (.iload_n 1, 1) := by decide +kernel
theorem dX7_nextOrder_102 : decode cX7_nextOrder 102 = .ok (.iload 4, 2) := by decide +kernel
theorem dX7_nextOrder_104 : decode cX7_nextOrder 104 = .ok (.isub, 1) := by decide +kernel
theorem dX7_nextOrder_105 : decode cX7_nextOrder 105 = .ok (.invokevirtual 45, 3) := by decide +kernel
theorem dX7_nextOrder_108 : decode cX7_nextOrder 108 = .ok (.iinc 4 1, 3) := by decide +kernel
theorem dX7_nextOrder_111 : decode cX7_nextOrder 111 = .ok (.goto (-26), 3) := by decide +kernel
theorem dX7_nextOrder_114 : decode cX7_nextOrder 114 = .ok (.iconst 1, 1) := by decide +kernel
theorem dX7_nextOrder_115 : decode cX7_nextOrder 115 = .ok (.ireturn, 1) := by decide +kernel
theorem dX7_swap_0 : decode cX7_swap 0 = .ok (.aload_n 0, 1) := by decide +kernel
theorem dX7_swap_1 : decode cX7_swap 1 = .ok (.getfield 11, 3) := by decide +kernel
theorem dX7_swap_4 : decode cX7_swap 4 = .ok (.iload_n 1, 1) := by decide +kernel
theorem dX7_swap_5 : decode cX7_swap 5 = .ok (.iaload, 1) := by decide +kernel
theorem dX7_swap_6 : decode cX7_swap 6 = .ok (.istore_n 3, 1) := by decide +kernel
theorem dX7_swap_7 : decode cX7_swap 7 = .ok (.aload_n 0, 1) := by decide +kernel
theorem dX7_swap_8 : decode cX7_swap 8 = .ok (.getfield 11, 3) := by decide +kernel
theorem dX7_swap_11 : decode cX7_swap 11 = .ok (.iload_n 1, 1) := by decide +kernel
theorem dX7_swap_12 : decode cX7_swap 12 = .ok (.aload_n 0, 1) := by decide +kernel
theorem dX7_swap_13 : decode cX7_swap 13 = .ok (.getfield 11, 3) := by decide +kernel
theorem dX7_swap_16 : decode cX7_swap 16 = .ok (.iload_n 2, 1) := by decide +kernel
theorem dX7_swap_17 : decode cX7_swap 17 = .ok (.iaload, 1) := by decide +kernel
theorem dX7_swap_18 : decode cX7_swap 18 = .ok (.iastore, 1) := by decide +kernel
theorem dX7_swap_19 : decode cX7_swap 19 = .ok (.aload_n 0, 1) := by decide +kernel
theorem dX7_swap_20 : decode cX7_swap 20 = .ok (.getfield 11, 3) := by decide +kernel
theorem dX7_swap_23 : decode cX7_swap 23 = .ok (.iload_n 2, 1) := by decide +kernel
theorem dX7_swap_24 : decode cX7_swap 24 = .ok (.iload_n 3, 1) := by decide +kernel
theorem dX7_swap_25 : decode cX7_swap 25 = .ok (.iastore, 1) := by decide +kernel
theorem dX7_swap_26 : decode cX7_swap 26 = .ok (.return_, 1) := by decide +kernel
theorem dX8_init_0 : decode cX8_init 0 = .ok (.aload_n 0, 1) := by decide +kernel
theorem dX8_init_1 : decode cX8_init 1 = .ok (.invokespecial 3, 3) := by decide +kernel
theorem dX8_init_4 : decode cX8_init 4 = .ok (.aload_n 0, 1) := by decide +kernel
theorem dX8_init_5 : decode cX8_init 5 = .ok (.iconst 0, 1) := by decide +kernel
theorem dX8_init_6 : decode cX8_init 6 = .ok (.putfield 11, 3) := by decide +kernel
theorem dX8_init_9 : decode cX8_init 9 = .ok (.aload_n 0, 1) := by decide +kernel
theorem dX8_init_10 : decode cX8_init 10 = .ok (.iconst (-1), 1) := by decide +kernel
theorem dX8_init_11 : decode cX8_init 11 = .ok (.putfield 15, 3) := by decide +kernel
theorem dX8_init_14 : decode cX8_init 14 = .ok (.aload_n 0, 1) := by decide +kernel
theorem dX8_init_15 : decode cX8_init 15 = .ok (.iconst 0, 1) := by decide +kernel
theorem dX8_init_16 : decode cX8_init 16 = .ok (.putfield 18, 3) := by decide +kernel
theorem dX8_init_19 : decode cX8_init 19 = .ok (.aload_n 0, 1) := by decide +kernel
theorem dX8_init_20 : decode cX8_init 20 = .ok (.iconst 0, 1) := by decide +kernel
theorem dX8_init_21 : decode cX8_init 21 = .ok (.putfield 21, 3) := by decide +kernel
theorem dX8_init_24 : decode cX8_init 24 = .ok (.aload_n 0, 1) := by decide +kernel
theorem dX8_init_25 : decode cX8_init 25 = .ok (.bipush 60, 2) := by decide +kernel
theorem dX8_init_27 : decode cX8_init 27 = .ok (.newarray .long, 2) := by decide +kernel
theorem dX8_init_29 : decode cX8_init 29 = .ok (.putfield 24, 3) := by decide +kernel
theorem dX8_init_32 : decode cX8_init 32 = .ok (.return_, 1) := by decide +kernel
theorem dX8_holdGoer_0 : decode cX8_holdGoer 0 = .ok (.aload_n 0, 1) := by decide +kernel
theorem dX8_holdGoer_1 : decode cX8_holdGoer 1 = .ok (.iload_n 1, 1) := by decide +kernel
theorem dX8_holdGoer_2 : decode cX8_holdGoer 2 = .ok (.ifCond .ge 7, 3) := by decide +kernel
theorem dX8_holdGoer_5 : decode cX8_holdGoer 5 = .ok (.iconst 0, 1) := by decide +kernel
theorem dX8_holdGoer_6 : decode cX8_holdGoer 6 = .ok (.goto 4, 3) := by decide +kernel
theorem dX8_holdGoer_9 : decode cX8_holdGoer 9 = .ok (.iconst 1, 1) := by decide +kernel
theorem dX8_holdGoer_10 : decode cX8_holdGoer 10 = .ok (.putfield 11, 3) := by decide +kernel
theorem dX8_holdGoer_13 : decode cX8_holdGoer 13 = .ok (.aload_n 0, 1) := by decide +kernel
theorem dX8_holdGoer_14 : decode cX8_holdGoer 14 = .ok (.iload_n 1, 1) := by decide +kernel
theorem dX8_holdGoer_15 : decode cX8_holdGoer 15 = .ok (.putfield 15, 3) := by decide +kernel
theorem dX8_holdGoer_18 : decode cX8_holdGoer 18 = .ok (.return_, 1) := by decide +kernel
theorem dX8_holdRow_0 : decode cX8_holdRow 0 = .ok (.aload_n 0, 1) := by decide +kernel
theorem dX8_holdRow_1 : decode cX8_holdRow 1 = .ok (.iconst 2, 1) := by decide +kernel
theorem dX8_holdRow_2 : decode cX8_holdRow 2 = .ok (.putfield 11, 3) := by decide +kernel
theorem dX8_holdRow_5 : decode cX8_holdRow 5 = .ok (.aload_n 0, 1) := by decide +kernel
theorem dX8_holdRow_6 : decode cX8_holdRow 6 = .ok (.iload_n 1, 1) := by decide +kernel
theorem dX8_holdRow_7 : decode cX8_holdRow 7 = .ok (.putfield 18, 3) := by decide +kernel
theorem dX8_holdRow_10 : decode cX8_holdRow 10 = .ok (.aload_n 0, 1) := by decide +kernel
theorem dX8_holdRow_11 : decode cX8_holdRow 11 = .ok (.iload_n 2, 1) := by decide +kernel
theorem dX8_holdRow_12 : decode cX8_holdRow 12 = .ok (.ifCond .lt 13, 3) := by decide +kernel
theorem dX8_holdRow_15 : decode cX8_holdRow 15 = .ok (.iload_n 2, 1) := by decide +kernel
theorem dX8_holdRow_16 : decode cX8_holdRow 16 = .ok (.bipush 60, 2) := by decide +kernel
theorem dX8_holdRow_18 : decode cX8_holdRow 18 = .ok (.if_icmp .gt 7, 3) := by decide +kernel
theorem dX8_holdRow_21 : decode cX8_holdRow 21 = .ok (.iload_n 2, 1) := by decide +kernel
theorem dX8_holdRow_22 : decode cX8_holdRow 22 = .ok (.goto 4, 3) := by decide +kernel
theorem dX8_holdRow_25 : decode cX8_holdRow 25 = .ok (.iconst 0, 1) := by decide +kernel
theorem dX8_holdRow_26 : decode cX8_holdRow 26 = .ok (.putfield 21, 3) := by decide +kernel
theorem dX8_holdRow_29 : decode cX8_holdRow 29 = .ok (.iconst 0, 1) := by decide +kernel
theorem dX8_holdRow_30 : decode cX8_holdRow 30 = .ok (.istore_n 3, 1) := by decide +kernel
theorem dX8_holdRow_31 : decode cX8_holdRow 31 = .ok (.iload_n 3, 1) := by decide +kernel
theorem dX8_holdRow_32 : decode cX8_holdRow 32 = .ok (.bipush 60, 2) := by decide +kernel
theorem dX8_holdRow_34 : decode cX8_holdRow 34 = .ok (.if_icmp .ge 16, 3) := by decide +kernel
theorem dX8_holdRow_37 : decode cX8_holdRow 37 = .ok (.aload_n 0, 1) := by decide +kernel
theorem dX8_holdRow_38 : decode cX8_holdRow 38 = .ok (.getfield 24, 3) := by decide +kernel
theorem dX8_holdRow_41 : decode cX8_holdRow 41 = .ok (.iload_n 3, 1) := by decide +kernel
theorem dX8_holdRow_42 : decode cX8_holdRow 42 = .ok (.lconst 0, 1) := by decide +kernel
theorem dX8_holdRow_43 : decode cX8_holdRow 43 = .ok (.lastore, 1) := by decide +kernel
theorem dX8_holdRow_44 : decode cX8_holdRow 44 = .ok (.iinc 3 1, 3) := by decide +kernel
theorem dX8_holdRow_47 : decode cX8_holdRow 47 = .ok (.goto (-16), 3) := by decide +kernel
theorem dX8_holdRow_50 : decode cX8_holdRow 50 = .ok (.return_, 1) := by decide +kernel
theorem dX8_isRow_0 : decode cX8_isRow 0 = .ok (.aload_n 0, 1) := by decide +kernel
theorem dX8_isRow_1 : decode cX8_isRow 1 = .ok (.getfield 11, 3) := by decide +kernel
theorem dX8_isRow_4 : decode cX8_isRow 4 = .ok (.iconst 2, 1) := by decide +kernel
theorem dX8_isRow_5 : decode cX8_isRow 5 = .ok (.if_icmp .ne 15, 3) := by decide +kernel
theorem dX8_isRow_8 : decode cX8_isRow 8 = .ok (.aload_n 0, 1) := by decide +kernel
theorem dX8_isRow_9 : decode cX8_isRow 9 = .ok (.getfield 18, 3) := by decide +kernel
theorem dX8_isRow_12 : decode cX8_isRow 12 = .ok (.iload_n 1, 1) := by decide +kernel
theorem dX8_isRow_13 : decode cX8_isRow 13 = .ok (.if_icmp .ne 7, 3) := by decide +kernel
theorem dX8_isRow_16 : decode cX8_isRow 16 = .ok (.iconst 1, 1) := by decide +kernel
theorem dX8_isRow_17 : decode cX8_isRow 17 = .ok (.goto 4, 3) := by decide +kernel
theorem dX8_isRow_20 : decode cX8_isRow 20 = .ok (.iconst 0, 1) := by decide +kernel
theorem dX8_isRow_21 : decode cX8_isRow 21 = .ok (.ireturn, 1) := by decide +kernel
theorem dX8_refusal_0 : decode cX8_refusal 0 = .ok (.aload_n 0, 1) := by decide +kernel
theorem dX8_refusal_1 : decode cX8_refusal 1 = .ok (.getfield 11, 3) := by decide +kernel
theorem dX8_refusal_4 : decode cX8_refusal 4 = .ok (.ifCond .ne 6, 3) := by decide +kernel
theorem dX8_refusal_7 : decode cX8_refusal 7 = .ok (.bipush (-11), 2) := by decide +kernel
theorem dX8_refusal_9 : decode cX8_refusal 9 = .ok (.ireturn, 1) := by decide +kernel
theorem dX8_refusal_10 : decode cX8_refusal 10 = .ok (.aload_n 0, 1) := by decide +kernel
theorem dX8_refusal_11 : decode cX8_refusal 11 = .ok (.iload_n 1, 1) := by decide +kernel
theorem dX8_refusal_12 : decode cX8_refusal 12 = .ok (.invokevirtual 28, 3) := by decide +kernel
theorem dX8_refusal_15 : decode cX8_refusal 15 = .ok (.ifCond .eq 7, 3) := by decide +kernel
theorem dX8_refusal_18 : decode cX8_refusal 18 = .ok (.iconst 0, 1) := by decide +kernel
theorem dX8_refusal_19 : decode cX8_refusal 19 = .ok (.goto 5, 3) := by decide +kernel
theorem dX8_refusal_22 : decode cX8_refusal 22 = .ok (.bipush (-12), 2) := by decide +kernel
theorem dX8_refusal_24 : decode cX8_refusal 24 = .ok (.ireturn, 1) := by decide +kernel
theorem dX8_refusalAt_0 : decode cX8_refusalAt 0 = .ok (.aload_n 0, 1) := by decide +kernel
theorem dX8_refusalAt_1 : decode cX8_refusalAt 1 = .ok (.getfield 11, 3) := by decide +kernel
theorem dX8_refusalAt_4 : decode cX8_refusalAt 4 = .ok (.ifCond .ne 6, 3) := by decide +kernel
theorem dX8_refusalAt_7 : decode cX8_refusalAt 7 = .ok (.bipush (-11), 2) := by decide +kernel
theorem dX8_refusalAt_9 : decode cX8_refusalAt 9 = .ok (.ireturn, 1) := by decide +kernel
theorem dX8_refusalAt_10 : decode cX8_refusalAt 10 = .ok (.aload_n 0, 1) := by decide +kernel
theorem dX8_refusalAt_11 : decode cX8_refusalAt 11 = .ok (.getfield 11, 3) := by decide +kernel
theorem dX8_refusalAt_14 : decode cX8_refusalAt 14 = .ok (.iconst 2, 1) := by decide +kernel
theorem dX8_refusalAt_15 : decode cX8_refusalAt 15 = .ok (.if_icmp .eq 6, 3) := by decide +kernel
theorem dX8_refusalAt_18 : decode cX8_refusalAt 18 = .ok (.bipush (-12), 2) := by decide +kernel
theorem dX8_refusalAt_20 : decode cX8_refusalAt 20 = .ok (.ireturn, 1) := by decide +kernel
theorem dX8_refusalAt_21 : decode cX8_refusalAt 21 = .ok (.aload_n 0, 1) := by decide +kernel
theorem dX8_refusalAt_22 : decode cX8_refusalAt 22 = .ok (.iload_n 1, 1) := by decide +kernel
theorem dX8_refusalAt_23 : decode cX8_refusalAt 23 = .ok (.iconst 1, 1) := by decide +kernel
theorem dX8_refusalAt_24 : decode cX8_refusalAt 24 = .ok (.invokevirtual 32, 3) := by decide +kernel
theorem dX8_refusalAt_27 : decode cX8_refusalAt 27 = .ok (.ifCond .eq 7, 3) := by decide +kernel
theorem dX8_refusalAt_30 : decode cX8_refusalAt 30 = .ok (.iconst 0, 1) := by decide +kernel
theorem dX8_refusalAt_31 : decode cX8_refusalAt 31 = .ok (.goto 5, 3) := by decide +kernel
theorem dX8_refusalAt_34 : decode cX8_refusalAt 34 = .ok (.bipush (-13), 2) := by decide +kernel
theorem dX8_refusalAt_36 : decode cX8_refusalAt 36 = .ok (.ireturn, 1) := by decide +kernel
theorem dX8_hasPlaces_0 : decode cX8_hasPlaces 0 = .ok (.iload_n 1, 1) := by decide +kernel
theorem dX8_hasPlaces_1 : decode cX8_hasPlaces 1 = .ok (.ifCond .lt 29, 3) := by decide +kernel
theorem dX8_hasPlaces_4 : decode cX8_hasPlaces 4 = .ok (.iload_n 2, 1) := by decide +kernel
theorem dX8_hasPlaces_5 : decode cX8_hasPlaces 5 = .ok (.ifCond .lt 25, 3) := by decide +kernel
theorem dX8_hasPlaces_8 : decode cX8_hasPlaces 8 = .ok (.iload_n 2, 1) := by decide +kernel
theorem dX8_hasPlaces_9 : decode cX8_hasPlaces 9 = .ok (.aload_n 0, 1) := by decide +kernel
theorem dX8_hasPlaces_10 : decode cX8_hasPlaces 10 = .ok (.getfield 21, 3) := by decide +kernel
theorem dX8_hasPlaces_13 : decode cX8_hasPlaces 13 = .ok (.if_icmp .gt 17, 3) := by decide +kernel
theorem dX8_hasPlaces_16 : decode cX8_hasPlaces 16 = .ok (.iload_n 1, 1) := by decide +kernel
theorem dX8_hasPlaces_17 : decode cX8_hasPlaces 17 = .ok (.aload_n 0, 1) := by decide +kernel
theorem dX8_hasPlaces_18 : decode cX8_hasPlaces 18 = .ok (.getfield 21, 3) := by decide +kernel
theorem dX8_hasPlaces_21 : decode cX8_hasPlaces 21 = .ok (.iload_n 2, 1) := by decide +kernel
theorem dX8_hasPlaces_22 : decode cX8_hasPlaces 22 = .ok (.isub, 1) := by decide +kernel
theorem dX8_hasPlaces_23 : decode cX8_hasPlaces 23 = .ok (.if_icmp .gt 7, 3) := by decide +kernel
theorem dX8_hasPlaces_26 : decode cX8_hasPlaces 26 = .ok (.iconst 1, 1) := by decide +kernel
theorem dX8_hasPlaces_27 : decode cX8_hasPlaces 27 = .ok (.goto 4, 3) := by decide +kernel
theorem dX8_hasPlaces_30 : decode cX8_hasPlaces 30 = .ok (.iconst 0, 1) := by decide +kernel
theorem dX8_hasPlaces_31 : decode cX8_hasPlaces 31 = .ok (.ireturn, 1) := by decide +kernel
theorem dX8_at_0 : decode cX8_at 0 = .ok (.iload_n 1, 1) := by decide +kernel
theorem dX8_at_1 : decode cX8_at 1 = .ok (.ifCond .lt 18, 3) := by decide +kernel
theorem dX8_at_4 : decode cX8_at 4 = .ok (.iload_n 1, 1) := by decide +kernel
theorem dX8_at_5 : decode cX8_at 5 = .ok (.bipush 60, 2) := by decide +kernel
theorem dX8_at_7 : decode cX8_at 7 = .ok (.if_icmp .ge 12, 3) := by decide +kernel
theorem dX8_at_10 : decode cX8_at 10 = .ok (.aload_n 0, 1) := by decide +kernel
theorem dX8_at_11 : decode cX8_at 11 = .ok (.getfield 24, 3) := by decide +kernel
theorem dX8_at_14 : decode cX8_at 14 = .ok (.iload_n 1, 1) := by decide +kernel
theorem dX8_at_15 : decode cX8_at 15 = .ok (.laload, 1) := by decide +kernel
theorem dX8_at_16 : decode cX8_at 16 = .ok (.goto 4, 3) := by decide +kernel
theorem dX8_at_19 : decode cX8_at 19 = .ok (.lconst 0, 1) := by decide +kernel
theorem dX8_at_20 : decode cX8_at 20 = .ok (.lreturn, 1) := by decide +kernel
theorem dX8_become_0 : decode cX8_become 0 = .ok (.iload_n 1, 1) := by decide +kernel
theorem dX8_become_1 : decode cX8_become 1 = .ok (.ifCond .lt 20, 3) := by decide +kernel
theorem dX8_become_4 : decode cX8_become 4 = .ok (.iload_n 1, 1) := by decide +kernel
theorem dX8_become_5 : decode cX8_become 5 = .ok (.bipush 60, 2) := by decide +kernel
theorem dX8_become_7 : decode cX8_become 7 = .ok (.if_icmp .ge 14, 3) := by decide +kernel
theorem dX8_become_10 : decode cX8_become 10 = .ok (.aload_n 0, 1) := by decide +kernel
theorem dX8_become_11 : decode cX8_become 11 = .ok (.getfield 24, 3) := by decide +kernel
theorem dX8_become_14 : decode cX8_become 14 = .ok (.iload_n 1, 1) := by decide +kernel
theorem dX8_become_15 : decode cX8_become 15 = .ok (.aload_n 0, 1) := by decide +kernel
theorem dX8_become_16 : decode cX8_become 16 = .ok (.lload_n 2, 1) := by decide +kernel
theorem dX8_become_17 : decode cX8_become 17 = .ok (.invokevirtual 36, 3) := by decide +kernel
theorem dX8_become_20 : decode cX8_become 20 = .ok (.lastore, 1) := by decide +kernel
theorem dX8_become_21 : decode cX8_become 21 = .ok (.return_, 1) := by decide +kernel
theorem dX8_lowestBits_0 : decode cX8_lowestBits 0 = .ok (.aload_n 0, 1) := by decide +kernel
theorem dX8_lowestBits_1 : decode cX8_lowestBits 1 = .ok (.getfield 18, 3) := by decide +kernel
theorem dX8_lowestBits_4 : decode cX8_lowestBits 4 = .ok (.tableswitch 48 0 3 #[32, 37, 42, 46], 32) := by decide +kernel
theorem dX8_lowestBits_36 : decode cX8_lowestBits 36 = .ok (.lload_n 1, 1) := by decide +kernel
theorem dX8_lowestBits_37 : decode cX8_lowestBits 37 = .ok (.l2i, 1) := by decide +kernel
theorem dX8_lowestBits_38 : decode cX8_lowestBits 38 = .ok (.i2b, 1) := by decide +kernel
theorem dX8_lowestBits_39 : decode cX8_lowestBits 39 = .ok (.i2l, 1) := by decide +kernel
theorem dX8_lowestBits_40 : decode cX8_lowestBits 40 = .ok (.lreturn, 1) := by decide +kernel
theorem dX8_lowestBits_41 : decode cX8_lowestBits 41 = .ok (.lload_n 1, 1) := by decide +kernel
theorem dX8_lowestBits_42 : decode cX8_lowestBits 42 = .ok (.l2i, 1) := by decide +kernel
theorem dX8_lowestBits_43 : decode cX8_lowestBits 43 = .ok (.i2s, 1) := by decide +kernel
theorem dX8_lowestBits_44 : decode cX8_lowestBits 44 = .ok (.i2l, 1) := by decide +kernel
theorem dX8_lowestBits_45 : decode cX8_lowestBits 45 = .ok (.lreturn, 1) := by decide +kernel
theorem dX8_lowestBits_46 : decode cX8_lowestBits 46 = .ok (.lload_n 1, 1) := by decide +kernel
theorem dX8_lowestBits_47 : decode cX8_lowestBits 47 = .ok (.l2i, 1) := by decide +kernel
theorem dX8_lowestBits_48 : decode cX8_lowestBits 48 = .ok (.i2l, 1) := by decide +kernel
theorem dX8_lowestBits_49 : decode cX8_lowestBits 49 = .ok (.lreturn, 1) := by decide +kernel
theorem dX8_lowestBits_50 : decode cX8_lowestBits 50 = .ok (.lload_n 1, 1) := by decide +kernel
theorem dX8_lowestBits_51 : decode cX8_lowestBits 51 = .ok (.lreturn, 1) := by decide +kernel
theorem dX8_lowestBits_52 : decode cX8_lowestBits 52 = .ok (.lload_n 1, 1) := by decide +kernel
theorem dX8_lowestBits_53 : decode cX8_lowestBits 53 = .ok (.lconst 0, 1) := by decide +kernel
theorem dX8_lowestBits_54 : decode cX8_lowestBits 54 = .ok (.lcmp, 1) := by decide +kernel
theorem dX8_lowestBits_55 : decode cX8_lowestBits 55 = .ok (.ifCond .eq 7, 3) := by decide +kernel
theorem dX8_lowestBits_58 : decode cX8_lowestBits 58 = .ok (.lconst 1, 1) := by decide +kernel
theorem dX8_lowestBits_59 : decode cX8_lowestBits 59 = .ok (.goto 4, 3) := by decide +kernel
theorem dX8_lowestBits_62 : decode cX8_lowestBits 62 = .ok (.lconst 0, 1) := by decide +kernel
theorem dX8_lowestBits_63 : decode cX8_lowestBits 63 = .ok (.lreturn, 1) := by decide +kernel
theorem dX9_init_0 : decode cX9_init 0 = .ok (.aload_n 0, 1) := by decide +kernel
theorem dX9_init_1 : decode cX9_init 1 = .ok (.invokespecial 3, 3) := by decide +kernel
theorem dX9_init_4 : decode cX9_init 4 = .ok (.aload_n 0, 1) := by decide +kernel
theorem dX9_init_5 : decode cX9_init 5 = .ok (.bipush 75, 2) := by decide +kernel
theorem dX9_init_7 : decode cX9_init 7 = .ok (.newarray .int, 2) := by decide +kernel
theorem dX9_init_9 : decode cX9_init 9 = .ok (.putfield 11, 3) := by decide +kernel
theorem dX9_init_12 : decode cX9_init 12 = .ok (.aload_n 0, 1) := by decide +kernel
theorem dX9_init_13 : decode cX9_init 13 = .ok (.iconst 0, 1) := by decide +kernel
theorem dX9_init_14 : decode cX9_init 14 = .ok (.putfield 15, 3) := by decide +kernel
theorem dX9_init_17 : decode cX9_init 17 = .ok (.aload_n 0, 1) := by decide +kernel
theorem dX9_init_18 : decode cX9_init 18 = .ok (.getfield 11, 3) := by decide +kernel
theorem dX9_init_21 : decode cX9_init 21 = .ok (.bipush 36, 2) := by decide +kernel
theorem dX9_init_23 : decode cX9_init 23 = .ok (.iconst 1, 1) := by decide +kernel
theorem dX9_init_24 : decode cX9_init 24 = .ok (.iastore, 1) := by decide +kernel
theorem dX9_init_25 : decode cX9_init 25 = .ok (.aload_n 0, 1) := by decide +kernel
theorem dX9_init_26 : decode cX9_init 26 = .ok (.getfield 11, 3) := by decide +kernel
theorem dX9_init_29 : decode cX9_init 29 = .ok (.bipush 38, 2) := by decide +kernel
theorem dX9_init_31 : decode cX9_init 31 = .ok (.iconst 5, 1) := by decide +kernel
theorem dX9_init_32 : decode cX9_init 32 = .ok (.iastore, 1) := by decide +kernel
theorem dX9_init_33 : decode cX9_init 33 = .ok (.bipush 39, 2) := by decide +kernel
theorem dX9_init_35 : decode cX9_init 35 = .ok (.istore_n 1, 1) := by decide +kernel
theorem dX9_init_36 : decode cX9_init 36 = .ok (.iload_n 1, 1) := by decide +kernel
theorem dX9_init_37 : decode cX9_init 37 = .ok (.bipush 75, 2) := by decide +kernel
theorem dX9_init_39 : decode cX9_init 39 = .ok (.if_icmp .ge 17, 3) := by decide +kernel
theorem dX9_init_42 : decode cX9_init 42 = .ok (.aload_n 0, 1) := by decide +kernel
theorem dX9_init_43 : decode cX9_init 43 = .ok (.getfield 11, 3) := by decide +kernel
theorem dX9_init_46 : decode cX9_init 46 = .ok (.iload_n 1, 1) := by decide +kernel
theorem dX9_init_47 : decode cX9_init 47 = .ok (.bipush 9, 2) := by decide +kernel
theorem dX9_init_49 : decode cX9_init 49 = .ok (.iastore, 1) := by decide +kernel
theorem dX9_init_50 : decode cX9_init 50 = .ok (.iinc 1 1, 3) := by decide +kernel
theorem dX9_init_53 : decode cX9_init 53 = .ok (.goto (-17), 3) := by decide +kernel
theorem dX9_init_56 : decode cX9_init 56 = .ok (.return_, 1) := by decide +kernel
theorem dX9_come_0 : decode cX9_come 0 = .ok (.aload_n 0, 1) := by decide +kernel
theorem dX9_come_1 : decode cX9_come 1 = .ok (.getfield 15, 3) := by decide +kernel
theorem dX9_come_4 : decode cX9_come 4 = .ok (.istore 5, 2) := by decide +kernel
theorem dX9_come_6 : decode cX9_come 6 = .ok (.iload 5, 2) := by decide +kernel
theorem dX9_come_8 : decode cX9_come 8 = .ok (.bipush 6, 2) := by decide +kernel
theorem dX9_come_10 : decode cX9_come 10 = .ok (.if_icmp .lt 6, 3) := by decide +kernel
theorem dX9_come_13 : decode cX9_come 13 = .ok (.bipush (-3), 2) := by decide +kernel
theorem dX9_come_15 : decode cX9_come 15 = .ok (.ireturn, 1) := by decide +kernel
theorem dX9_come_16 : decode cX9_come 16 = .ok (.aload_n 0, 1) := by decide +kernel
theorem dX9_come_17 : decode cX9_come 17 = .ok (.getfield 11, 3) := by decide +kernel
theorem dX9_come_20 : decode cX9_come 20 = .ok (.iconst 0, 1) := by decide +kernel
theorem dX9_come_21 : decode cX9_come 21 = .ok (.iload 5, 2) := by decide +kernel
theorem dX9_come_23 : decode cX9_come 23 = .ok (.iadd, 1) := by decide +kernel
theorem dX9_come_24 : decode cX9_come 24 = .ok (.iload_n 1, 1) := by decide +kernel
theorem dX9_come_25 : decode cX9_come 25 = .ok (.iastore, 1) := by decide +kernel
theorem dX9_come_26 : decode cX9_come 26 = .ok (.aload_n 0, 1) := by decide +kernel
theorem dX9_come_27 : decode cX9_come 27 = .ok (.getfield 11, 3) := by decide +kernel
theorem dX9_come_30 : decode cX9_come 30 = .ok (.bipush 6, 2) := by decide +kernel
theorem dX9_come_32 : decode cX9_come 32 = .ok (.iload 5, 2) := by decide +kernel
theorem dX9_come_34 : decode cX9_come 34 = .ok (.iadd, 1) := by decide +kernel
theorem dX9_come_35 : decode cX9_come 35 = .ok (.iload_n 2, 1) := by decide +kernel
theorem dX9_come_36 : decode cX9_come 36 = .ok (.iastore, 1) := by decide +kernel
theorem dX9_come_37 : decode cX9_come 37 = .ok (.aload_n 0, 1) := by decide +kernel
theorem dX9_come_38 : decode cX9_come 38 = .ok (.getfield 11, 3) := by decide +kernel
theorem dX9_come_41 : decode cX9_come 41 = .ok (.bipush 12, 2) := by decide +kernel
theorem dX9_come_43 : decode cX9_come 43 = .ok (.iload 5, 2) := by decide +kernel
theorem dX9_come_45 : decode cX9_come 45 = .ok (.iadd, 1) := by decide +kernel
theorem dX9_come_46 : decode cX9_come 46 = .ok (.iload_n 3, 1) := by decide +kernel
theorem dX9_come_47 : decode cX9_come 47 = .ok (.iastore, 1) := by decide +kernel
theorem dX9_come_48 : decode cX9_come 48 = .ok (.aload_n 0, 1) := by decide +kernel
theorem dX9_come_49 : decode cX9_come 49 = .ok (.getfield 11, 3) := by decide +kernel
theorem dX9_come_52 : decode cX9_come 52 = .ok (.bipush 18, 2) := by decide +kernel
theorem dX9_come_54 : decode cX9_come 54 = .ok (.iload 5, 2) := by decide +kernel
theorem dX9_come_56 : decode cX9_come 56 = .ok (.iadd, 1) := by decide +kernel
theorem dX9_come_57 : decode cX9_come 57 = .ok (.iload 4, 2) := by decide +kernel
theorem dX9_come_59 : decode cX9_come 59 = .ok (.iastore, 1) := by decide +kernel
theorem dX9_come_60 : decode cX9_come 60 = .ok (.aload_n 0, 1) := by decide +kernel
theorem dX9_come_61 : decode cX9_come 61 = .ok (.dup, 1) := by decide +kernel
theorem dX9_come_62 : decode cX9_come 62 = .ok (.getfield 15, 3) := by decide +kernel
theorem dX9_come_65 : decode cX9_come 65 = .ok (.iconst 1, 1) := by decide +kernel
theorem dX9_come_66 : decode cX9_come 66 = .ok (.iadd, 1) := by decide +kernel
theorem dX9_come_67 : decode cX9_come 67 = .ok (.putfield 15, 3) := by decide +kernel
theorem dX9_come_70 : decode cX9_come 70 = .ok (.iload 5, 2) := by decide +kernel
theorem dX9_come_72 : decode cX9_come 72 = .ok (.ireturn, 1) := by decide +kernel
theorem dX9_placeOf_0 : decode cX9_placeOf 0 = .ok (.iload_n 1, 1) := by decide +kernel
theorem dX9_placeOf_1 : decode cX9_placeOf 1 = .ok (.ifCond .lt 13, 3) := by decide +kernel
theorem dX9_placeOf_4 : decode cX9_placeOf 4 = .ok (.iload_n 2, 1) := by decide +kernel
theorem dX9_placeOf_5 : decode cX9_placeOf 5 = .ok (.ifCond .lt 9, 3) := by decide +kernel
theorem dX9_placeOf_8 : decode cX9_placeOf 8 = .ok (.iload_n 2, 1) := by decide +kernel
theorem dX9_placeOf_9 : decode cX9_placeOf 9 = .ok (.bipush 9, 2) := by decide +kernel
theorem dX9_placeOf_11 : decode cX9_placeOf 11 = .ok (.if_icmp .le 5, 3) := by decide +kernel
theorem dX9_placeOf_14 : decode cX9_placeOf 14 = .ok (.iconst (-1), 1) := by decide +kernel
theorem dX9_placeOf_15 : decode cX9_placeOf 15 = .ok (.ireturn, 1) := by decide +kernel
theorem dX9_placeOf_16 : decode cX9_placeOf 16 = .ok (.iload_n 2, 1) := by decide +kernel
theorem dX9_placeOf_17 : decode cX9_placeOf 17 = .ok (.iconst 5, 1) := by decide +kernel
theorem dX9_placeOf_18 : decode cX9_placeOf 18 = .ok (.if_icmp .gt 22, 3) := by decide +kernel
theorem dX9_placeOf_21 : decode cX9_placeOf 21 = .ok (.iload_n 1, 1) := by decide +kernel
theorem dX9_placeOf_22 : decode cX9_placeOf 22 = .ok (.aload_n 0, 1) := by decide +kernel
theorem dX9_placeOf_23 : decode cX9_placeOf 23 = .ok (.getfield 15, 3) := by decide +kernel
theorem dX9_placeOf_26 : decode cX9_placeOf 26 = .ok (.if_icmp .ge 12, 3) := by decide +kernel
theorem dX9_placeOf_29 : decode cX9_placeOf 29 = .ok (.bipush 6, 2) := by decide +kernel
theorem dX9_placeOf_31 : decode cX9_placeOf 31 = .ok (.iload_n 2, 1) := by decide +kernel
theorem dX9_placeOf_32 : decode cX9_placeOf 32 = .ok (.imul, 1) := by decide +kernel
theorem dX9_placeOf_33 : decode cX9_placeOf 33 = .ok (.iload_n 1, 1) := by decide +kernel
theorem dX9_placeOf_34 : decode cX9_placeOf 34 = .ok (.iadd, 1) := by decide +kernel
theorem dX9_placeOf_35 : decode cX9_placeOf 35 = .ok (.goto 4, 3) := by decide +kernel
theorem dX9_placeOf_38 : decode cX9_placeOf 38 = .ok (.iconst (-1), 1) := by decide +kernel
theorem dX9_placeOf_39 : decode cX9_placeOf 39 = .ok (.ireturn, 1) := by decide +kernel
theorem dX9_placeOf_40 : decode cX9_placeOf 40 = .ok (.iload_n 2, 1) := by decide +kernel
theorem dX9_placeOf_41 : decode cX9_placeOf 41 = .ok (.bipush 9, 2) := by decide +kernel
theorem dX9_placeOf_43 : decode cX9_placeOf 43 = .ok (.if_icmp .ge 19, 3) := by decide +kernel
theorem dX9_placeOf_46 : decode cX9_placeOf 46 = .ok (.iload_n 1, 1) := by decide +kernel
theorem dX9_placeOf_47 : decode cX9_placeOf 47 = .ok (.ifCond .ne 13, 3) := by decide +kernel
theorem dX9_placeOf_50 : decode cX9_placeOf 50 = .ok (.bipush 36, 2) := by decide +kernel
theorem dX9_placeOf_52 : decode cX9_placeOf 52 = .ok (.iload_n 2, 1) := by decide +kernel
theorem dX9_placeOf_53 : decode cX9_placeOf 53 = .ok (.iadd, 1) := by decide +kernel
theorem dX9_placeOf_54 : decode cX9_placeOf 54 = .ok (.bipush 6, 2) := by decide +kernel
theorem dX9_placeOf_56 : decode cX9_placeOf 56 = .ok (.isub, 1) := by decide +kernel
theorem dX9_placeOf_57 : decode cX9_placeOf 57 = .ok (.goto 4, 3) := by decide +kernel
theorem dX9_placeOf_60 : decode cX9_placeOf 60 = .ok (.iconst (-1), 1) := by decide +kernel
theorem dX9_placeOf_61 : decode cX9_placeOf 61 = .ok (.ireturn, 1) := by decide +kernel
theorem dX9_placeOf_62 : decode cX9_placeOf 62 = .ok (.iload_n 1, 1) := by decide +kernel
theorem dX9_placeOf_63 : decode cX9_placeOf 63 = .ok (.bipush 10, 2) := by decide +kernel
theorem dX9_placeOf_65 : decode cX9_placeOf 65 = .ok (.idiv, 1) := by decide +kernel
theorem dX9_placeOf_66 : decode cX9_placeOf 66 = .ok (.istore_n 3, 1) := by decide +kernel
theorem dX9_placeOf_67 : decode cX9_placeOf 67 = .ok (.iload_n 1, 1) := by decide +kernel
theorem dX9_placeOf_68 : decode cX9_placeOf 68 = .ok (.bipush 10, 2) := by decide +kernel
theorem dX9_placeOf_70 : decode cX9_placeOf 70 = .ok (.irem, 1) := by decide +kernel
theorem dX9_placeOf_71 : decode cX9_placeOf 71 = .ok (.istore 4, 2) := by decide +kernel
theorem dX9_placeOf_73 : decode cX9_placeOf 73 = .ok (.iload_n 3, 1) := by decide +kernel
theorem dX9_placeOf_74 : decode cX9_placeOf 74 = .ok (.bipush 6, 2) := by decide +kernel
theorem dX9_placeOf_76 : decode cX9_placeOf 76 = .ok (.if_icmp .ge 25, 3) := by decide +kernel
theorem dX9_placeOf_79 : decode cX9_placeOf 79 = .ok (.iload 4, 2) := by decide +kernel
theorem dX9_placeOf_81 : decode cX9_placeOf 81 = .ok (.bipush 6, 2) := by decide +kernel
theorem dX9_placeOf_83 : decode cX9_placeOf 83 = .ok (.if_icmp .ge 18, 3) := by decide +kernel
theorem dX9_placeOf_86 : decode cX9_placeOf 86 = .ok (.iload_n 3, 1) := by decide +kernel
theorem dX9_placeOf_87 : decode cX9_placeOf 87 = .ok (.iload 4, 2) := by decide +kernel
theorem dX9_placeOf_89 : decode cX9_placeOf 89 = .ok (.if_icmp .eq 12, 3) := by decide +kernel
theorem dX9_placeOf_92 : decode cX9_placeOf 92 = .ok (.iload_n 3, 1) := by decide +kernel
theorem dX9_placeOf_93 : decode cX9_placeOf 93 = .ok (.iload 4, 2) := by decide +kernel
theorem dX9_placeOf_95 : decode cX9_placeOf 95 = .ok (.invokestatic 19, 3) := by decide +kernel
theorem dX9_placeOf_98 : decode cX9_placeOf 98 = .ok (.goto 4, 3) := by decide +kernel
theorem dX9_placeOf_101 : decode cX9_placeOf 101 = .ok (.iconst (-1), 1) := by decide +kernel
theorem dX9_placeOf_102 : decode cX9_placeOf 102 = .ok (.ireturn, 1) := by decide +kernel
theorem dX9_mostOf_0 : decode cX9_mostOf 0 = .ok (.iload_n 1, 1) := by decide +kernel
theorem dX9_mostOf_1 : decode cX9_mostOf 1 = .ok (.ifCond .lt 19, 3) := by decide +kernel
theorem dX9_mostOf_4 : decode cX9_mostOf 4 = .ok (.iload_n 1, 1) := by decide +kernel
theorem dX9_mostOf_5 : decode cX9_mostOf 5 = .ok (.getstatic 23, 3) := by decide +kernel
theorem dX9_mostOf_8 : decode cX9_mostOf 8 = .ok (.arraylength, 1) := by decide +kernel
theorem dX9_mostOf_9 : decode cX9_mostOf 9 = .ok (.if_icmp .ge 11, 3) := by decide +kernel
theorem dX9_mostOf_12 : decode cX9_mostOf 12 = .ok (.getstatic 23, 3) := by decide +kernel
theorem dX9_mostOf_15 : decode cX9_mostOf 15 = .ok (.iload_n 1, 1) := by decide +kernel
theorem dX9_mostOf_16 : decode cX9_mostOf 16 = .ok (.iaload, 1) := by decide +kernel
theorem dX9_mostOf_17 : decode cX9_mostOf 17 = .ok (.goto 4, 3) := by decide +kernel
theorem dX9_mostOf_20 : decode cX9_mostOf 20 = .ok (.iconst (-1), 1) := by decide +kernel
theorem dX9_mostOf_21 : decode cX9_mostOf 21 = .ok (.ireturn, 1) := by decide +kernel
theorem dX9_at_0 : decode cX9_at 0 = .ok (.iload_n 1, 1) := by decide +kernel
theorem dX9_at_1 : decode cX9_at 1 = .ok (.ifCond .lt 18, 3) := by decide +kernel
theorem dX9_at_4 : decode cX9_at 4 = .ok (.iload_n 1, 1) := by decide +kernel
theorem dX9_at_5 : decode cX9_at 5 = .ok (.bipush 75, 2) := by decide +kernel
theorem dX9_at_7 : decode cX9_at 7 = .ok (.if_icmp .ge 12, 3) := by decide +kernel
theorem dX9_at_10 : decode cX9_at 10 = .ok (.aload_n 0, 1) := by decide +kernel
theorem dX9_at_11 : decode cX9_at 11 = .ok (.getfield 11, 3) := by decide +kernel
theorem dX9_at_14 : decode cX9_at 14 = .ok (.iload_n 1, 1) := by decide +kernel
theorem dX9_at_15 : decode cX9_at 15 = .ok (.iaload, 1) := by decide +kernel
theorem dX9_at_16 : decode cX9_at 16 = .ok (.goto 4, 3) := by decide +kernel
theorem dX9_at_19 : decode cX9_at 19 = .ok (.iconst 0, 1) := by decide +kernel
theorem dX9_at_20 : decode cX9_at 20 = .ok (.ireturn, 1) := by decide +kernel
theorem dX9_become_0 : decode cX9_become 0 = .ok (.iload_n 1, 1) := by decide +kernel
theorem dX9_become_1 : decode cX9_become 1 = .ok (.ifCond .lt 16, 3) := by decide +kernel
theorem dX9_become_4 : decode cX9_become 4 = .ok (.iload_n 1, 1) := by decide +kernel
theorem dX9_become_5 : decode cX9_become 5 = .ok (.bipush 75, 2) := by decide +kernel
theorem dX9_become_7 : decode cX9_become 7 = .ok (.if_icmp .ge 10, 3) := by decide +kernel
theorem dX9_become_10 : decode cX9_become 10 = .ok (.aload_n 0, 1) := by decide +kernel
theorem dX9_become_11 : decode cX9_become 11 = .ok (.getfield 11, 3) := by decide +kernel
theorem dX9_become_14 : decode cX9_become 14 = .ok (.iload_n 1, 1) := by decide +kernel
theorem dX9_become_15 : decode cX9_become 15 = .ok (.iload_n 2, 1) := by decide +kernel
theorem dX9_become_16 : decode cX9_become 16 = .ok (.iastore, 1) := by decide +kernel
theorem dX9_become_17 : decode cX9_become 17 = .ok (.return_, 1) := by decide +kernel
theorem dX9_ofThing_0 : decode cX9_ofThing 0 = .ok (.iload_n 2, 1) := by decide +kernel
theorem dX9_ofThing_1 : decode cX9_ofThing 1 = .ok (.ifCond .lt 24, 3) := by decide +kernel
theorem dX9_ofThing_4 : decode cX9_ofThing 4 = .ok (.iload_n 2, 1) := by decide +kernel
theorem dX9_ofThing_5 : decode cX9_ofThing 5 = .ok (.aload_n 0, 1) := by decide +kernel
theorem dX9_ofThing_6 : decode cX9_ofThing 6 = .ok (.getfield 15, 3) := by decide +kernel
theorem dX9_ofThing_9 : decode cX9_ofThing 9 = .ok (.if_icmp .ge 16, 3) := by decide +kernel
theorem dX9_ofThing_12 : decode cX9_ofThing 12 = .ok (.aload_n 0, 1) := by decide +kernel
theorem dX9_ofThing_13 : decode cX9_ofThing 13 = .ok (.bipush 6, 2) := by decide +kernel
theorem dX9_ofThing_15 : decode cX9_ofThing 15 = .ok (.iload_n 1, 1) := by decide +kernel
theorem dX9_ofThing_16 : decode cX9_ofThing 16 = .ok (.imul, 1) := by decide +kernel
theorem dX9_ofThing_17 : decode cX9_ofThing 17 = .ok (.iload_n 2, 1) := by decide +kernel
theorem dX9_ofThing_18 : decode cX9_ofThing 18 = .ok (.iadd, 1) := by decide +kernel
theorem dX9_ofThing_19 : decode cX9_ofThing 19 = .ok (.invokevirtual 26, 3) := by decide +kernel
theorem dX9_ofThing_22 : decode cX9_ofThing 22 = .ok (.goto 4, 3) := by decide +kernel
theorem dX9_ofThing_25 : decode cX9_ofThing 25 = .ok (.iconst 0, 1) := by decide +kernel
theorem dX9_ofThing_26 : decode cX9_ofThing 26 = .ok (.ireturn, 1) := by decide +kernel
theorem dX9_price_0 : decode cX9_price 0 = .ok (.aload_n 0, 1) := by decide +kernel
theorem dX9_price_1 : decode cX9_price 1 = .ok (.getfield 11, 3) := by decide +kernel
theorem dX9_price_4 : decode cX9_price 4 = .ok (.bipush 36, 2) := by decide +kernel
theorem dX9_price_6 : decode cX9_price 6 = .ok (.iaload, 1) := by decide +kernel
theorem dX9_price_7 : decode cX9_price 7 = .ok (.ireturn, 1) := by decide +kernel
theorem dX9_look_0 : decode cX9_look 0 = .ok (.aload_n 0, 1) := by decide +kernel
theorem dX9_look_1 : decode cX9_look 1 = .ok (.getfield 11, 3) := by decide +kernel
theorem dX9_look_4 : decode cX9_look 4 = .ok (.bipush 37, 2) := by decide +kernel
theorem dX9_look_6 : decode cX9_look 6 = .ok (.iaload, 1) := by decide +kernel
theorem dX9_look_7 : decode cX9_look 7 = .ok (.ireturn, 1) := by decide +kernel
theorem dX9_ring_0 : decode cX9_ring 0 = .ok (.aload_n 0, 1) := by decide +kernel
theorem dX9_ring_1 : decode cX9_ring 1 = .ok (.getfield 11, 3) := by decide +kernel
theorem dX9_ring_4 : decode cX9_ring 4 = .ok (.bipush 38, 2) := by decide +kernel
theorem dX9_ring_6 : decode cX9_ring 6 = .ok (.iaload, 1) := by decide +kernel
theorem dX9_ring_7 : decode cX9_ring 7 = .ok (.ireturn, 1) := by decide +kernel
theorem dX9_yards_0 : decode cX9_yards 0 = .ok (.iload_n 1, 1) := by decide +kernel
theorem dX9_yards_1 : decode cX9_yards 1 = .ok (.iload_n 2, 1) := by decide +kernel
theorem dX9_yards_2 : decode cX9_yards 2 = .ok (.if_icmp .ne 7, 3) := by decide +kernel
theorem dX9_yards_5 : decode cX9_yards 5 = .ok (.iconst 0, 1) := by decide +kernel
theorem dX9_yards_6 : decode cX9_yards 6 = .ok (.goto 12, 3) := by decide +kernel
theorem dX9_yards_9 : decode cX9_yards 9 = .ok (.aload_n 0, 1) := by decide +kernel
theorem dX9_yards_10 : decode cX9_yards 10 = .ok (.iload_n 1, 1) := by decide +kernel
theorem dX9_yards_11 : decode cX9_yards 11 = .ok (.iload_n 2, 1) := by decide +kernel
theorem dX9_yards_12 : decode cX9_yards 12 = .ok (.invokestatic 19, 3) := by decide +kernel
theorem dX9_yards_15 : decode cX9_yards 15 = .ok (.invokevirtual 26, 3) := by decide +kernel
theorem dX9_yards_18 : decode cX9_yards 18 = .ok (.ireturn, 1) := by decide +kernel
theorem dX9_between_0 : decode cX9_between 0 = .ok (.bipush 39, 2) := by decide +kernel
theorem dX9_between_2 : decode cX9_between 2 = .ok (.bipush 6, 2) := by decide +kernel
theorem dX9_between_4 : decode cX9_between 4 = .ok (.iload_n 0, 1) := by decide +kernel
theorem dX9_between_5 : decode cX9_between 5 = .ok (.iload_n 1, 1) := by decide +kernel
theorem dX9_between_6 : decode cX9_between 6 = .ok (.invokestatic 30, 3) := by decide +kernel
theorem dX9_between_9 : decode cX9_between 9 = .ok (.imul, 1) := by decide +kernel
theorem dX9_between_10 : decode cX9_between 10 = .ok (.iadd, 1) := by decide +kernel
theorem dX9_between_11 : decode cX9_between 11 = .ok (.iload_n 0, 1) := by decide +kernel
theorem dX9_between_12 : decode cX9_between 12 = .ok (.iload_n 1, 1) := by decide +kernel
theorem dX9_between_13 : decode cX9_between 13 = .ok (.invokestatic 35, 3) := by decide +kernel
theorem dX9_between_16 : decode cX9_between 16 = .ok (.iadd, 1) := by decide +kernel
theorem dX9_between_17 : decode cX9_between 17 = .ok (.ireturn, 1) := by decide +kernel
theorem dJ6_bitCount_0f7a4_0 : decode cJ6_bitCount_0f7a4 0 = .ok (.iload_n 0, 1) := by decide +kernel
theorem dJ6_bitCount_0f7a4_1 : decode cJ6_bitCount_0f7a4 1 = .ok (.iload_n 0, 1) := by decide +kernel
theorem dJ6_bitCount_0f7a4_2 : decode cJ6_bitCount_0f7a4 2 = .ok (.iconst 1, 1) := by decide +kernel
theorem dJ6_bitCount_0f7a4_3 : decode cJ6_bitCount_0f7a4 3 = .ok (.iushr, 1) := by decide +kernel
theorem dJ6_bitCount_0f7a4_4 : decode cJ6_bitCount_0f7a4 4 = .ok (.ldc_w 265, 3) := by decide +kernel
theorem dJ6_bitCount_0f7a4_7 : decode cJ6_bitCount_0f7a4 7 = .ok (.iand, 1) := by decide +kernel
theorem dJ6_bitCount_0f7a4_8 : decode cJ6_bitCount_0f7a4 8 = .ok (.isub, 1) := by decide +kernel
theorem dJ6_bitCount_0f7a4_9 : decode cJ6_bitCount_0f7a4 9 = .ok (.istore_n 0, 1) := by decide +kernel
theorem dJ6_bitCount_0f7a4_10 : decode cJ6_bitCount_0f7a4 10 = .ok (.iload_n 0, 1) := by decide +kernel
theorem dJ6_bitCount_0f7a4_11 : decode cJ6_bitCount_0f7a4 11 = .ok (.ldc_w 266, 3) := by decide +kernel
theorem dJ6_bitCount_0f7a4_14 : decode cJ6_bitCount_0f7a4 14 = .ok (.iand, 1) := by decide +kernel
theorem dJ6_bitCount_0f7a4_15 : decode cJ6_bitCount_0f7a4 15 = .ok (.iload_n 0, 1) := by decide +kernel
theorem dJ6_bitCount_0f7a4_16 : decode cJ6_bitCount_0f7a4 16 = .ok (.iconst 2, 1) := by decide +kernel
theorem dJ6_bitCount_0f7a4_17 : decode cJ6_bitCount_0f7a4 17 = .ok (.iushr, 1) := by decide +kernel
theorem dJ6_bitCount_0f7a4_18 : decode cJ6_bitCount_0f7a4 18 = .ok (.ldc_w 266, 3) := by decide +kernel
theorem dJ6_bitCount_0f7a4_21 : decode cJ6_bitCount_0f7a4 21 = .ok (.iand, 1) := by decide +kernel
theorem dJ6_bitCount_0f7a4_22 : decode cJ6_bitCount_0f7a4 22 = .ok (.iadd, 1) := by decide +kernel
theorem dJ6_bitCount_0f7a4_23 : decode cJ6_bitCount_0f7a4 23 = .ok (.istore_n 0, 1) := by decide +kernel
theorem dJ6_bitCount_0f7a4_24 : decode cJ6_bitCount_0f7a4 24 = .ok (.iload_n 0, 1) := by decide +kernel
theorem dJ6_bitCount_0f7a4_25 : decode cJ6_bitCount_0f7a4 25 = .ok (.iload_n 0, 1) := by decide +kernel
theorem dJ6_bitCount_0f7a4_26 : decode cJ6_bitCount_0f7a4 26 = .ok (.iconst 4, 1) := by decide +kernel
theorem dJ6_bitCount_0f7a4_27 : decode cJ6_bitCount_0f7a4 27 = .ok (.iushr, 1) := by decide +kernel
theorem dJ6_bitCount_0f7a4_28 : decode cJ6_bitCount_0f7a4 28 = .ok (.iadd, 1) := by decide +kernel
theorem dJ6_bitCount_0f7a4_29 : decode cJ6_bitCount_0f7a4 29 = .ok (.ldc_w 267, 3) := by decide +kernel
theorem dJ6_bitCount_0f7a4_32 : decode cJ6_bitCount_0f7a4 32 = .ok (.iand, 1) := by decide +kernel
theorem dJ6_bitCount_0f7a4_33 : decode cJ6_bitCount_0f7a4 33 = .ok (.istore_n 0, 1) := by decide +kernel
theorem dJ6_bitCount_0f7a4_34 : decode cJ6_bitCount_0f7a4 34 = .ok (.iload_n 0, 1) := by decide +kernel
theorem dJ6_bitCount_0f7a4_35 : decode cJ6_bitCount_0f7a4 35 = .ok (.iload_n 0, 1) := by decide +kernel
theorem dJ6_bitCount_0f7a4_36 : decode cJ6_bitCount_0f7a4 36 = .ok (.bipush 8, 2) := by decide +kernel
theorem dJ6_bitCount_0f7a4_38 : decode cJ6_bitCount_0f7a4 38 = .ok (.iushr, 1) := by decide +kernel
theorem dJ6_bitCount_0f7a4_39 : decode cJ6_bitCount_0f7a4 39 = .ok (.iadd, 1) := by decide +kernel
theorem dJ6_bitCount_0f7a4_40 : decode cJ6_bitCount_0f7a4 40 = .ok (.istore_n 0, 1) := by decide +kernel
theorem dJ6_bitCount_0f7a4_41 : decode cJ6_bitCount_0f7a4 41 = .ok (.iload_n 0, 1) := by decide +kernel
theorem dJ6_bitCount_0f7a4_42 : decode cJ6_bitCount_0f7a4 42 = .ok (.iload_n 0, 1) := by decide +kernel
theorem dJ6_bitCount_0f7a4_43 : decode cJ6_bitCount_0f7a4 43 = .ok (.bipush 16, 2) := by decide +kernel
theorem dJ6_bitCount_0f7a4_45 : decode cJ6_bitCount_0f7a4 45 = .ok (.iushr, 1) := by decide +kernel
theorem dJ6_bitCount_0f7a4_46 : decode cJ6_bitCount_0f7a4 46 = .ok (.iadd, 1) := by decide +kernel
theorem dJ6_bitCount_0f7a4_47 : decode cJ6_bitCount_0f7a4 47 = .ok (.istore_n 0, 1) := by decide +kernel
theorem dJ6_bitCount_0f7a4_48 : decode cJ6_bitCount_0f7a4 48 = .ok (.iload_n 0, 1) := by decide +kernel
theorem dJ6_bitCount_0f7a4_49 : decode cJ6_bitCount_0f7a4 49 = .ok (.bipush 63, 2) := by decide +kernel
theorem dJ6_bitCount_0f7a4_51 : decode cJ6_bitCount_0f7a4 51 = .ok (.iand, 1) := by decide +kernel
theorem dJ6_bitCount_0f7a4_52 : decode cJ6_bitCount_0f7a4 52 = .ok (.ireturn, 1) := by decide +kernel
theorem dJ9_abs_067f4_0 : decode cJ9_abs_067f4 0 = .ok (.lload_n 0, 1) := by decide +kernel
theorem dJ9_abs_067f4_1 : decode cJ9_abs_067f4 1 = .ok (.lconst 0, 1) := by decide +kernel
theorem dJ9_abs_067f4_2 : decode cJ9_abs_067f4 2 = .ok (.lcmp, 1) := by decide +kernel
theorem dJ9_abs_067f4_3 : decode cJ9_abs_067f4 3 = .ok (.ifCond .ge 8, 3) := by decide +kernel
theorem dJ9_abs_067f4_6 : decode cJ9_abs_067f4 6 = .ok (.lload_n 0, 1) := by decide +kernel
theorem dJ9_abs_067f4_7 : decode cJ9_abs_067f4 7 = .ok (.lneg, 1) := by decide +kernel
theorem dJ9_abs_067f4_8 : decode cJ9_abs_067f4 8 = .ok (.goto 4, 3) := by decide +kernel
theorem dJ9_abs_067f4_11 : decode cJ9_abs_067f4 11 = .ok (.lload_n 0, 1) := by decide +kernel
theorem dJ9_abs_067f4_12 : decode cJ9_abs_067f4 12 = .ok (.lreturn, 1) := by decide +kernel
theorem dJ9_max_7cf53_0 : decode cJ9_max_7cf53 0 = .ok (.iload_n 0, 1) := by decide +kernel
theorem dJ9_max_7cf53_1 : decode cJ9_max_7cf53 1 = .ok (.iload_n 1, 1) := by decide +kernel
theorem dJ9_max_7cf53_2 : decode cJ9_max_7cf53 2 = .ok (.if_icmp .lt 7, 3) := by decide +kernel
theorem dJ9_max_7cf53_5 : decode cJ9_max_7cf53 5 = .ok (.iload_n 0, 1) := by decide +kernel
theorem dJ9_max_7cf53_6 : decode cJ9_max_7cf53 6 = .ok (.goto 4, 3) := by decide +kernel
theorem dJ9_max_7cf53_9 : decode cJ9_max_7cf53 9 = .ok (.iload_n 1, 1) := by decide +kernel
theorem dJ9_max_7cf53_10 : decode cJ9_max_7cf53 10 = .ok (.ireturn, 1) := by decide +kernel
theorem dJ9_min_7cf53_0 : decode cJ9_min_7cf53 0 = .ok (.iload_n 0, 1) := by decide +kernel
theorem dJ9_min_7cf53_1 : decode cJ9_min_7cf53 1 = .ok (.iload_n 1, 1) := by decide +kernel
theorem dJ9_min_7cf53_2 : decode cJ9_min_7cf53 2 = .ok (.if_icmp .gt 7, 3) := by decide +kernel
theorem dJ9_min_7cf53_5 : decode cJ9_min_7cf53 5 = .ok (.iload_n 0, 1) := by decide +kernel
theorem dJ9_min_7cf53_6 : decode cJ9_min_7cf53 6 = .ok (.goto 4, 3) := by decide +kernel
theorem dJ9_min_7cf53_9 : decode cJ9_min_7cf53 9 = .ok (.iload_n 1, 1) := by decide +kernel
theorem dJ9_min_7cf53_10 : decode cJ9_min_7cf53 10 = .ok (.ireturn, 1) := by decide +kernel
theorem dJ9_min_f86c9_0 : decode cJ9_min_f86c9 0 = .ok (.lload_n 0, 1) := by decide +kernel
theorem dJ9_min_f86c9_1 : decode cJ9_min_f86c9 1 = .ok (.lload_n 2, 1) := by decide +kernel
theorem dJ9_min_f86c9_2 : decode cJ9_min_f86c9 2 = .ok (.lcmp, 1) := by decide +kernel
theorem dJ9_min_f86c9_3 : decode cJ9_min_f86c9 3 = .ok (.ifCond .gt 7, 3) := by decide +kernel
theorem dJ9_min_f86c9_6 : decode cJ9_min_f86c9 6 = .ok (.lload_n 0, 1) := by decide +kernel
theorem dJ9_min_f86c9_7 : decode cJ9_min_f86c9 7 = .ok (.goto 4, 3) := by decide +kernel
theorem dJ9_min_f86c9_10 : decode cJ9_min_f86c9 10 = .ok (.lload_n 2, 1) := by decide +kernel
theorem dJ9_min_f86c9_11 : decode cJ9_min_f86c9 11 = .ok (.lreturn, 1) := by decide +kernel
