theorem dX0_init_0 : decode cX0_init 0 = .ok (.aload_n 0, 1) := by decide +kernel
theorem dX0_init_1 : decode cX0_init 1 = .ok (.invokespecial 3, 3) := by decide +kernel
theorem dX0_init_4 : decode cX0_init 4 = .ok (.aload_n 0, 1) := by decide +kernel
theorem dX0_init_5 : decode cX0_init 5 = .ok (.bipush 8, 2) := by decide +kernel
theorem dX0_init_7 : decode cX0_init 7 = .ok (.anewarray 9, 3) := by decide +kernel
theorem dX0_init_10 : decode cX0_init 10 = .ok (.putfield 11, 3) := by decide +kernel
theorem dX0_init_13 : decode cX0_init 13 = .ok (.iconst 0, 1) := by decide +kernel
theorem dX0_init_14 : decode cX0_init 14 = .ok (.istore_n 1, 1) := by decide +kernel
theorem dX0_init_15 : decode cX0_init 15 = .ok (.iload_n 1, 1) := by decide +kernel
theorem dX0_init_16 : decode cX0_init 16 = .ok (.bipush 8, 2) := by decide +kernel
theorem dX0_init_18 : decode cX0_init 18 = .ok (.if_icmp .ge 22, 3) := by decide +kernel
theorem dX0_init_21 : decode cX0_init 21 = .ok (.aload_n 0, 1) := by decide +kernel
theorem dX0_init_22 : decode cX0_init 22 = .ok (.getfield 11, 3) := by decide +kernel
theorem dX0_init_25 : decode cX0_init 25 = .ok (.iload_n 1, 1) := by decide +kernel
theorem dX0_init_26 : decode cX0_init 26 = .ok (.new 9, 3) := by decide +kernel
theorem dX0_init_29 : decode cX0_init 29 = .ok (.dup, 1) := by decide +kernel
theorem dX0_init_30 : decode cX0_init 30 = .ok (.invokespecial 17, 3) := by decide +kernel
theorem dX0_init_33 : decode cX0_init 33 = .ok (.aastore, 1) := by decide +kernel
theorem dX0_init_34 : decode cX0_init 34 = .ok (.iinc 1 1, 3) := by decide +kernel
theorem dX0_init_37 : decode cX0_init 37 = .ok (.goto (-22), 3) := by decide +kernel
theorem dX0_init_40 : decode cX0_init 40 = .ok (.return_, 1) := by decide +kernel
theorem dX0_forget_0 : decode cX0_forget 0 = .ok (.aload_n 0, 1) := by decide +kernel
theorem dX0_forget_1 : decode cX0_forget 1 = .ok (.iconst 0, 1) := by decide +kernel
theorem dX0_forget_2 : decode cX0_forget 2 = .ok (.putfield 18, 3) := by decide +kernel
theorem dX0_forget_5 : decode cX0_forget 5 = .ok (.return_, 1) := by decide +kernel
theorem dX0_remember_0 : decode cX0_remember 0 = .ok (.aload_n 0, 1) := by decide +kernel
theorem dX0_remember_1 : decode cX0_remember 1 = .ok (.aload_n 1, 1) := by decide +kernel
theorem dX0_remember_2 : decode cX0_remember 2 = .ok (.invokevirtual 22, 3) := by decide +kernel
theorem dX0_remember_5 : decode cX0_remember 5 = .ok (.aload_n 0, 1) := by decide +kernel
theorem dX0_remember_6 : decode cX0_remember 6 = .ok (.aload_n 0, 1) := by decide +kernel
theorem dX0_remember_7 : decode cX0_remember 7 = .ok (.getfield 26, 3) := by decide +kernel
theorem dX0_remember_10 : decode cX0_remember 10 = .ok (.iconst 1, 1) := by decide +kernel
theorem dX0_remember_11 : decode cX0_remember 11 = .ok (.iadd, 1) := by decide +kernel
theorem dX0_remember_12 : decode cX0_remember 12 = .ok (.bipush 8, 2) := by decide +kernel
theorem dX0_remember_14 : decode cX0_remember 14 = .ok (.irem, 1) := by decide +kernel
theorem dX0_remember_15 : decode cX0_remember 15 = .ok (.putfield 26, 3) := by decide +kernel
theorem dX0_remember_18 : decode cX0_remember 18 = .ok (.aload_n 0, 1) := by decide +kernel
theorem dX0_remember_19 : decode cX0_remember 19 = .ok (.getfield 18, 3) := by decide +kernel
theorem dX0_remember_22 : decode cX0_remember 22 = .ok (.bipush 8, 2) := by decide +kernel
theorem dX0_remember_24 : decode cX0_remember 24 = .ok (.if_icmp .ge 13, 3) := by decide +kernel
theorem dX0_remember_27 : decode cX0_remember 27 = .ok (.aload_n 0, 1) := by decide +kernel
theorem dX0_remember_28 : decode cX0_remember 28 = .ok (.dup, 1) := by decide +kernel
theorem dX0_remember_29 : decode cX0_remember 29 = .ok (.getfield 18, 3) := by decide +kernel
theorem dX0_remember_32 : decode cX0_remember 32 = .ok (.iconst 1, 1) := by decide +kernel
theorem dX0_remember_33 : decode cX0_remember 33 = .ok (.iadd, 1) := by decide +kernel
theorem dX0_remember_34 : decode cX0_remember 34 = .ok (.putfield 18, 3) := by decide +kernel
theorem dX0_remember_37 : decode cX0_remember 37 = .ok (.return_, 1) := by decide +kernel
theorem dX0_copyTo_0 : decode cX0_copyTo 0 = .ok (.aload_n 0, 1) := by decide +kernel
theorem dX0_copyTo_1 : decode cX0_copyTo 1 = .ok (.getfield 26, 3) := by decide +kernel
theorem dX0_copyTo_4 : decode cX0_copyTo 4 = .ok (.ifCond .lt 12, 3) := by decide +kernel
theorem dX0_copyTo_7 : decode cX0_copyTo 7 = .ok (.aload_n 0, 1) := by decide +kernel
theorem dX0_copyTo_8 : decode cX0_copyTo 8 = .ok (.getfield 26, 3) := by decide +kernel
theorem dX0_copyTo_11 : decode cX0_copyTo 11 = .ok (.bipush 8, 2) := by decide +kernel
theorem dX0_copyTo_13 : decode cX0_copyTo 13 = .ok (.if_icmp .lt 4, 3) := by decide +kernel
theorem dX0_copyTo_16 : decode cX0_copyTo 16 = .ok (.return_, 1) := by decide +kernel
theorem dX0_copyTo_17 : decode cX0_copyTo 17 = .ok (.aload_n 0, 1) := by decide +kernel
theorem dX0_copyTo_18 : decode cX0_copyTo 18 = .ok (.getfield 11, 3) := by decide +kernel
theorem dX0_copyTo_21 : decode cX0_copyTo 21 = .ok (.aload_n 0, 1) := by decide +kernel
theorem dX0_copyTo_22 : decode cX0_copyTo 22 = .ok (.getfield 26, 3) := by decide +kernel
theorem dX0_copyTo_25 : decode cX0_copyTo 25 = .ok (.aaload, 1) := by decide +kernel
theorem dX0_copyTo_26 : decode cX0_copyTo 26 = .ok (.astore_n 2, 1) := by decide +kernel
theorem dX0_copyTo_27 : decode cX0_copyTo 27 = .ok (.aload_n 2, 1) := by decide +kernel
theorem dX0_copyTo_28 : decode cX0_copyTo 28 = .ok (.ifnull 8, 3) := by decide +kernel
theorem dX0_copyTo_31 : decode cX0_copyTo 31 = .ok (.aload_n 2, 1) := by decide +kernel
theorem dX0_copyTo_32 : decode cX0_copyTo 32 = .ok (.aload_n 1, 1) := by decide +kernel
theorem dX0_copyTo_33 : decode cX0_copyTo 33 = .ok (.invokevirtual 29, 3) := by decide +kernel
theorem dX0_copyTo_36 : decode cX0_copyTo 36 = .ok (.return_, 1) := by decide +kernel
theorem dX0_takeBack_0 : decode cX0_takeBack 0 = .ok (.aload_n 0, 1) := by decide +kernel
theorem dX0_takeBack_1 : decode cX0_takeBack 1 = .ok (.getfield 18, 3) := by decide +kernel
theorem dX0_takeBack_4 : decode cX0_takeBack 4 = .ok (.ifCond .ne 4, 3) := by decide +kernel
theorem dX0_takeBack_7 : decode cX0_takeBack 7 = .ok (.return_, 1) := by decide +kernel
theorem dX0_takeBack_8 : decode cX0_takeBack 8 = .ok (.aload_n 0, 1) := by decide +kernel
theorem dX0_takeBack_9 : decode cX0_takeBack 9 = .ok (.aload_n 0, 1) := by decide +kernel
theorem dX0_takeBack_10 : decode cX0_takeBack 10 = .ok (.getfield 26, 3) := by decide +kernel
theorem dX0_takeBack_13 : decode cX0_takeBack 13 = .ok (.bipush 8, 2) := by decide +kernel
theorem dX0_takeBack_15 : decode cX0_takeBack 15 = .ok (.iadd, 1) := by decide +kernel
theorem dX0_takeBack_16 : decode cX0_takeBack 16 = .ok (.iconst 1, 1) := by decide +kernel
theorem dX0_takeBack_17 : decode cX0_takeBack 17 = .ok (.isub, 1) := by decide +kernel
theorem dX0_takeBack_18 : decode cX0_takeBack 18 = .ok (.bipush 8, 2) := by decide +kernel
theorem dX0_takeBack_20 : decode cX0_takeBack 20 = .ok (.irem, 1) := by decide +kernel
theorem dX0_takeBack_21 : decode cX0_takeBack 21 = .ok (.putfield 26, 3) := by decide +kernel
theorem dX0_takeBack_24 : decode cX0_takeBack 24 = .ok (.aload_n 0, 1) := by decide +kernel
theorem dX0_takeBack_25 : decode cX0_takeBack 25 = .ok (.dup, 1) := by decide +kernel
theorem dX0_takeBack_26 : decode cX0_takeBack 26 = .ok (.getfield 18, 3) := by decide +kernel
theorem dX0_takeBack_29 : decode cX0_takeBack 29 = .ok (.iconst 1, 1) := by decide +kernel
theorem dX0_takeBack_30 : decode cX0_takeBack 30 = .ok (.isub, 1) := by decide +kernel
theorem dX0_takeBack_31 : decode cX0_takeBack 31 = .ok (.putfield 18, 3) := by decide +kernel
theorem dX0_takeBack_34 : decode cX0_takeBack 34 = .ok (.aload_n 0, 1) := by decide +kernel
theorem dX0_takeBack_35 : decode cX0_takeBack 35 = .ok (.getfield 26, 3) := by decide +kernel
theorem dX0_takeBack_38 : decode cX0_takeBack 38 = .ok (.ifCond .lt 12, 3) := by decide +kernel
theorem dX0_takeBack_41 : decode cX0_takeBack 41 = .ok (.aload_n 0, 1) := by decide +kernel
theorem dX0_takeBack_42 : decode cX0_takeBack 42 = .ok (.getfield 26, 3) := by decide +kernel
theorem dX0_takeBack_45 : decode cX0_takeBack 45 = .ok (.bipush 8, 2) := by decide +kernel
theorem dX0_takeBack_47 : decode cX0_takeBack 47 = .ok (.if_icmp .lt 4, 3) := by decide +kernel
theorem dX0_takeBack_50 : decode cX0_takeBack 50 = .ok (.return_, 1) := by decide +kernel
theorem dX0_takeBack_51 : decode cX0_takeBack 51 = .ok (.aload_n 0, 1) := by decide +kernel
theorem dX0_takeBack_52 : decode cX0_takeBack 52 = .ok (.getfield 11, 3) := by decide +kernel
theorem dX0_takeBack_55 : decode cX0_takeBack 55 = .ok (.aload_n 0, 1) := by decide +kernel
theorem dX0_takeBack_56 : decode cX0_takeBack 56 = .ok (.getfield 26, 3) := by decide +kernel
theorem dX0_takeBack_59 : decode cX0_takeBack 59 = .ok (.aaload, 1) := by decide +kernel
theorem dX0_takeBack_60 : decode cX0_takeBack 60 = .ok (.astore_n 2, 1) := by decide +kernel
theorem dX0_takeBack_61 : decode cX0_takeBack 61 = .ok (.aload_n 2, 1) := by decide +kernel
theorem dX0_takeBack_62 : decode cX0_takeBack 62 = .ok (.ifnull 8, 3) := by decide +kernel
theorem dX0_takeBack_65 : decode cX0_takeBack 65 = .ok (.aload_n 1, 1) := by decide +kernel
theorem dX0_takeBack_66 : decode cX0_takeBack 66 = .ok (.aload_n 2, 1) := by decide +kernel
theorem dX0_takeBack_67 : decode cX0_takeBack 67 = .ok (.invokevirtual 29, 3) := by decide +kernel
theorem dX0_takeBack_70 : decode cX0_takeBack 70 = .ok (.return_, 1) := by decide +kernel
theorem dX1_init_0 : decode cX1_init 0 = .ok (.aload_n 0, 1) := by decide +kernel
theorem dX1_init_1 : decode cX1_init 1 = .ok (.invokespecial 3, 3) := by decide +kernel
theorem dX1_init_4 : decode cX1_init 4 = .ok (.aload_n 0, 1) := by decide +kernel
theorem dX1_init_5 : decode cX1_init 5 = .ok (.bipush 40, 2) := by decide +kernel
theorem dX1_init_7 : decode cX1_init 7 = .ok (.newarray .int, 2) := by decide +kernel
theorem dX1_init_9 : decode cX1_init 9 = .ok (.putfield 9, 3) := by decide +kernel
theorem dX1_init_12 : decode cX1_init 12 = .ok (.aload_n 0, 1) := by decide +kernel
theorem dX1_init_13 : decode cX1_init 13 = .ok (.bipush 40, 2) := by decide +kernel
theorem dX1_init_15 : decode cX1_init 15 = .ok (.newarray .int, 2) := by decide +kernel
theorem dX1_init_17 : decode cX1_init 17 = .ok (.putfield 15, 3) := by decide +kernel
theorem dX1_init_20 : decode cX1_init 20 = .ok (.aload_n 0, 1) := by decide +kernel
theorem dX1_init_21 : decode cX1_init 21 = .ok (.bipush 40, 2) := by decide +kernel
theorem dX1_init_23 : decode cX1_init 23 = .ok (.newarray .int, 2) := by decide +kernel
theorem dX1_init_25 : decode cX1_init 25 = .ok (.putfield 18, 3) := by decide +kernel
theorem dX1_init_28 : decode cX1_init 28 = .ok (.return_, 1) := by decide +kernel
theorem dX1_copyFrom_0 : decode cX1_copyFrom 0 = .ok (.aload_n 1, 1) := by decide +kernel
theorem dX1_copyFrom_1 : decode cX1_copyFrom 1 = .ok (.getfield 9, 3) := by decide +kernel
theorem dX1_copyFrom_4 : decode cX1_copyFrom 4 = .ok (.aload_n 0, 1) := by decide +kernel
theorem dX1_copyFrom_5 : decode cX1_copyFrom 5 = .ok (.getfield 9, 3) := by decide +kernel
theorem dX1_copyFrom_8 : decode cX1_copyFrom 8 = .ok (.invokestatic 21, 3) := by decide +kernel
theorem dX1_copyFrom_11 : decode cX1_copyFrom 11 = .ok (.aload_n 1, 1) := by decide +kernel
theorem dX1_copyFrom_12 : decode cX1_copyFrom 12 = .ok (.getfield 15, 3) := by decide +kernel
theorem dX1_copyFrom_15 : decode cX1_copyFrom 15 = .ok (.aload_n 0, 1) := by decide +kernel
theorem dX1_copyFrom_16 : decode cX1_copyFrom 16 = .ok (.getfield 15, 3) := by decide +kernel
theorem dX1_copyFrom_19 : decode cX1_copyFrom 19 = .ok (.invokestatic 21, 3) := by decide +kernel
theorem dX1_copyFrom_22 : decode cX1_copyFrom 22 = .ok (.aload_n 1, 1) := by decide +kernel
theorem dX1_copyFrom_23 : decode cX1_copyFrom 23 = .ok (.getfield 18, 3) := by decide +kernel
theorem dX1_copyFrom_26 : decode cX1_copyFrom 26 = .ok (.aload_n 0, 1) := by decide +kernel
theorem dX1_copyFrom_27 : decode cX1_copyFrom 27 = .ok (.getfield 18, 3) := by decide +kernel
theorem dX1_copyFrom_30 : decode cX1_copyFrom 30 = .ok (.invokestatic 21, 3) := by decide +kernel
theorem dX1_copyFrom_33 : decode cX1_copyFrom 33 = .ok (.aload_n 0, 1) := by decide +kernel
theorem dX1_copyFrom_34 : decode cX1_copyFrom 34 = .ok (.aload_n 1, 1) := by decide +kernel
theorem dX1_copyFrom_35 : decode cX1_copyFrom 35 = .ok (.getfield 25, 3) := by decide +kernel
theorem dX1_copyFrom_38 : decode cX1_copyFrom 38 = .ok (.putfield 25, 3) := by decide +kernel
theorem dX1_copyFrom_41 : decode cX1_copyFrom 41 = .ok (.aload_n 0, 1) := by decide +kernel
theorem dX1_copyFrom_42 : decode cX1_copyFrom 42 = .ok (.aload_n 1, 1) := by decide +kernel
theorem dX1_copyFrom_43 : decode cX1_copyFrom 43 = .ok (.getfield 29, 3) := by decide +kernel
theorem dX1_copyFrom_46 : decode cX1_copyFrom 46 = .ok (.putfield 29, 3) := by decide +kernel
theorem dX1_copyFrom_49 : decode cX1_copyFrom 49 = .ok (.return_, 1) := by decide +kernel
theorem dX1_add_0 : decode cX1_add 0 = .ok (.aload_n 0, 1) := by decide +kernel
theorem dX1_add_1 : decode cX1_add 1 = .ok (.getfield 25, 3) := by decide +kernel
theorem dX1_add_4 : decode cX1_add 4 = .ok (.aload_n 0, 1) := by decide +kernel
theorem dX1_add_5 : decode cX1_add 5 = .ok (.getfield 29, 3) := by decide +kernel
theorem dX1_add_8 : decode cX1_add 8 = .ok (.iadd, 1) := by decide +kernel
theorem dX1_add_9 : decode cX1_add 9 = .ok (.bipush 40, 2) := by decide +kernel
theorem dX1_add_11 : decode cX1_add 11 = .ok (.irem, 1) := by decide +kernel
theorem dX1_add_12 : decode cX1_add 12 = .ok (.istore 4, 2) := by decide +kernel
theorem dX1_add_14 : decode cX1_add 14 = .ok (.aload_n 0, 1) := by decide +kernel
theorem dX1_add_15 : decode cX1_add 15 = .ok (.getfield 9, 3) := by decide +kernel
theorem dX1_add_18 : decode cX1_add 18 = .ok (.iload 4, 2) := by decide +kernel
theorem dX1_add_20 : decode cX1_add 20 = .ok (.iload_n 1, 1) := by decide +kernel
theorem dX1_add_21 : decode cX1_add 21 = .ok (.invokestatic 32, 3) := by decide +kernel
theorem dX1_add_24 : decode cX1_add 24 = .ok (.aload_n 0, 1) := by decide +kernel
theorem dX1_add_25 : decode cX1_add 25 = .ok (.getfield 15, 3) := by decide +kernel
theorem dX1_add_28 : decode cX1_add 28 = .ok (.iload 4, 2) := by decide +kernel
theorem dX1_add_30 : decode cX1_add 30 = .ok (.iload_n 2, 1) := by decide +kernel
theorem dX1_add_31 : decode cX1_add 31 = .ok (.invokestatic 32, 3) := by decide +kernel
theorem dX1_add_34 : decode cX1_add 34 = .ok (.aload_n 0, 1) := by decide +kernel
theorem dX1_add_35 : decode cX1_add 35 = .ok (.getfield 18, 3) := by decide +kernel
theorem dX1_add_38 : decode cX1_add 38 = .ok (.iload 4, 2) := by decide +kernel
theorem dX1_add_40 : decode cX1_add 40 = .ok (.iload_n 3, 1) := by decide +kernel
theorem dX1_add_41 : decode cX1_add 41 = .ok (.invokestatic 32, 3) := by decide +kernel
theorem dX1_add_44 : decode cX1_add 44 = .ok (.aload_n 0, 1) := by decide +kernel
theorem dX1_add_45 : decode cX1_add 45 = .ok (.getfield 29, 3) := by decide +kernel
theorem dX1_add_48 : decode cX1_add 48 = .ok (.bipush 40, 2) := by decide +kernel
theorem dX1_add_50 : decode cX1_add 50 = .ok (.if_icmp .ge 16, 3) := by decide +kernel
theorem dX1_add_53 : decode cX1_add 53 = .ok (.aload_n 0, 1) := by decide +kernel
theorem dX1_add_54 : decode cX1_add 54 = .ok (.dup, 1) := by decide +kernel
theorem dX1_add_55 : decode cX1_add 55 = .ok (.getfield 29, 3) := by decide +kernel
theorem dX1_add_58 : decode cX1_add 58 = .ok (.iconst 1, 1) := by decide +kernel
theorem dX1_add_59 : decode cX1_add 59 = .ok (.iadd, 1) := by decide +kernel
theorem dX1_add_60 : decode cX1_add 60 = .ok (.putfield 29, 3) := by decide +kernel
theorem dX1_add_63 : decode cX1_add 63 = .ok (.goto 16, 3) := by decide +kernel
theorem dX1_add_66 : decode cX1_add 66 = .ok (.aload_n 0, 1) := by decide +kernel
theorem dX1_add_67 : decode cX1_add 67 = .ok (.aload_n 0, 1) := by decide +kernel
theorem dX1_add_68 : decode cX1_add 68 = .ok (.getfield 25, 3) := by decide +kernel
theorem dX1_add_71 : decode cX1_add 71 = .ok (.iconst 1, 1) := by decide +kernel
theorem dX1_add_72 : decode cX1_add 72 = .ok (.iadd, 1) := by decide +kernel
theorem dX1_add_73 : decode cX1_add 73 = .ok (.bipush 40, 2) := by decide +kernel
theorem dX1_add_75 : decode cX1_add 75 = .ok (.irem, 1) := by decide +kernel
theorem dX1_add_76 : decode cX1_add 76 = .ok (.putfield 25, 3) := by decide +kernel
theorem dX1_add_79 : decode cX1_add 79 = .ok (.return_, 1) := by decide +kernel
theorem dX2_init_0 : decode cX2_init 0 = .ok (.aload_n 0, 1) := by decide +kernel
theorem dX2_init_1 : decode cX2_init 1 = .ok (.invokespecial 3, 3) := by decide +kernel
theorem dX2_init_4 : decode cX2_init 4 = .ok (.aload_n 0, 1) := by decide +kernel
theorem dX2_init_5 : decode cX2_init 5 = .ok (.bipush 10, 2) := by decide +kernel
theorem dX2_init_7 : decode cX2_init 7 = .ok (.newarray .int, 2) := by decide +kernel
theorem dX2_init_9 : decode cX2_init 9 = .ok (.putfield 9, 3) := by decide +kernel
theorem dX2_init_12 : decode cX2_init 12 = .ok (.aload_n 0, 1) := by decide +kernel
theorem dX2_init_13 : decode cX2_init 13 = .ok (.bipush 10, 2) := by decide +kernel
theorem dX2_init_15 : decode cX2_init 15 = .ok (.newarray .int, 2) := by decide +kernel
theorem dX2_init_17 : decode cX2_init 17 = .ok (.putfield 15, 3) := by decide +kernel
theorem dX2_init_20 : decode cX2_init 20 = .ok (.aload_n 0, 1) := by decide +kernel
theorem dX2_init_21 : decode cX2_init 21 = .ok (.bipush 10, 2) := by decide +kernel
theorem dX2_init_23 : decode cX2_init 23 = .ok (.newarray .int, 2) := by decide +kernel
theorem dX2_init_25 : decode cX2_init 25 = .ok (.putfield 18, 3) := by decide +kernel
theorem dX2_init_28 : decode cX2_init 28 = .ok (.aload_n 0, 1) := by decide +kernel
theorem dX2_init_29 : decode cX2_init 29 = .ok (.bipush 10, 2) := by decide +kernel
theorem dX2_init_31 : decode cX2_init 31 = .ok (.newarray .int, 2) := by decide +kernel
theorem dX2_init_33 : decode cX2_init 33 = .ok (.putfield 21, 3) := by decide +kernel
theorem dX2_init_36 : decode cX2_init 36 = .ok (.aload_n 0, 1) := by decide +kernel
theorem dX2_init_37 : decode cX2_init 37 = .ok (.bipush 10, 2) := by decide +kernel
theorem dX2_init_39 : decode cX2_init 39 = .ok (.newarray .int, 2) := by decide +kernel
theorem dX2_init_41 : decode cX2_init 41 = .ok (.putfield 24, 3) := by decide +kernel
theorem dX2_init_44 : decode cX2_init 44 = .ok (.aload_n 0, 1) := by decide +kernel
theorem dX2_init_45 : decode cX2_init 45 = .ok (.bipush 10, 2) := by decide +kernel
theorem dX2_init_47 : decode cX2_init 47 = .ok (.newarray .int, 2) := by decide +kernel
theorem dX2_init_49 : decode cX2_init 49 = .ok (.putfield 27, 3) := by decide +kernel
theorem dX2_init_52 : decode cX2_init 52 = .ok (.aload_n 0, 1) := by decide +kernel
theorem dX2_init_53 : decode cX2_init 53 = .ok (.bipush 60, 2) := by decide +kernel
theorem dX2_init_55 : decode cX2_init 55 = .ok (.newarray .int, 2) := by decide +kernel
theorem dX2_init_57 : decode cX2_init 57 = .ok (.putfield 30, 3) := by decide +kernel
theorem dX2_init_60 : decode cX2_init 60 = .ok (.aload_n 0, 1) := by decide +kernel
theorem dX2_init_61 : decode cX2_init 61 = .ok (.bipush 60, 2) := by decide +kernel
theorem dX2_init_63 : decode cX2_init 63 = .ok (.newarray .int, 2) := by decide +kernel
theorem dX2_init_65 : decode cX2_init 65 = .ok (.putfield 33, 3) := by decide +kernel
theorem dX2_init_68 : decode cX2_init 68 = .ok (.return_, 1) := by decide +kernel
theorem dX2_copyFrom_0 : decode cX2_copyFrom 0 = .ok (.aload_n 1, 1) := by decide +kernel
theorem dX2_copyFrom_1 : decode cX2_copyFrom 1 = .ok (.getfield 9, 3) := by decide +kernel
theorem dX2_copyFrom_4 : decode cX2_copyFrom 4 = .ok (.aload_n 0, 1) := by decide +kernel
theorem dX2_copyFrom_5 : decode cX2_copyFrom 5 = .ok (.getfield 9, 3) := by decide +kernel
theorem dX2_copyFrom_8 : decode cX2_copyFrom 8 = .ok (.invokestatic 36, 3) := by decide +kernel
theorem dX2_copyFrom_11 : decode cX2_copyFrom 11 = .ok (.aload_n 1, 1) := by decide +kernel
theorem dX2_copyFrom_12 : decode cX2_copyFrom 12 = .ok (.getfield 15, 3) := by decide +kernel
theorem dX2_copyFrom_15 : decode cX2_copyFrom 15 = .ok (.aload_n 0, 1) := by decide +kernel
theorem dX2_copyFrom_16 : decode cX2_copyFrom 16 = .ok (.getfield 15, 3) := by decide +kernel
theorem dX2_copyFrom_19 : decode cX2_copyFrom 19 = .ok (.invokestatic 36, 3) := by decide +kernel
theorem dX2_copyFrom_22 : decode cX2_copyFrom 22 = .ok (.aload_n 1, 1) := by decide +kernel
theorem dX2_copyFrom_23 : decode cX2_copyFrom 23 = .ok (.getfield 18, 3) := by decide +kernel
theorem dX2_copyFrom_26 : decode cX2_copyFrom 26 = .ok (.aload_n 0, 1) := by decide +kernel
theorem dX2_copyFrom_27 : decode cX2_copyFrom 27 = .ok (.getfield 18, 3) := by decide +kernel
theorem dX2_copyFrom_30 : decode cX2_copyFrom 30 = .ok (.invokestatic 36, 3) := by decide +kernel
theorem dX2_copyFrom_33 : decode cX2_copyFrom 33 = .ok (.aload_n 1, 1) := by decide +kernel
theorem dX2_copyFrom_34 : decode cX2_copyFrom 34 = .ok (.getfield 21, 3) := by decide +kernel
theorem dX2_copyFrom_37 : decode cX2_copyFrom 37 = .ok (.aload_n 0, 1) := by decide +kernel
theorem dX2_copyFrom_38 : decode cX2_copyFrom 38 = .ok (.getfield 21, 3) := by decide +kernel
theorem dX2_copyFrom_41 : decode cX2_copyFrom 41 = .ok (.invokestatic 36, 3) := by decide +kernel
theorem dX2_copyFrom_44 : decode cX2_copyFrom 44 = .ok (.aload_n 1, 1) := by decide +kernel
theorem dX2_copyFrom_45 : decode cX2_copyFrom 45 = .ok (.getfield 24, 3) := by decide +kernel
theorem dX2_copyFrom_48 : decode cX2_copyFrom 48 = .ok (.aload_n 0, 1) := by decide +kernel
theorem dX2_copyFrom_49 : decode cX2_copyFrom 49 = .ok (.getfield 24, 3) := by decide +kernel
theorem dX2_copyFrom_52 : decode cX2_copyFrom 52 = .ok (.invokestatic 36, 3) := by decide +kernel
theorem dX2_copyFrom_55 : decode cX2_copyFrom 55 = .ok (.aload_n 1, 1) := by decide +kernel
theorem dX2_copyFrom_56 : decode cX2_copyFrom 56 = .ok (.getfield 27, 3) := by decide +kernel
theorem dX2_copyFrom_59 : decode cX2_copyFrom 59 = .ok (.aload_n 0, 1) := by decide +kernel
theorem dX2_copyFrom_60 : decode cX2_copyFrom 60 = .ok (.getfield 27, 3) := by decide +kernel
theorem dX2_copyFrom_63 : decode cX2_copyFrom 63 = .ok (.invokestatic 36, 3) := by decide +kernel
theorem dX2_copyFrom_66 : decode cX2_copyFrom 66 = .ok (.aload_n 1, 1) := by decide +kernel
theorem dX2_copyFrom_67 : decode cX2_copyFrom 67 = .ok (.getfield 30, 3) := by decide +kernel
theorem dX2_copyFrom_70 : decode cX2_copyFrom 70 = .ok (.aload_n 0, 1) := by decide +kernel
theorem dX2_copyFrom_71 : decode cX2_copyFrom 71 = .ok (.getfield 30, 3) := by decide +kernel
theorem dX2_copyFrom_74 : decode cX2_copyFrom 74 = .ok (.invokestatic 36, 3) := by decide +kernel
theorem dX2_copyFrom_77 : decode cX2_copyFrom 77 = .ok (.aload_n 1, 1) := by decide +kernel
theorem dX2_copyFrom_78 : decode cX2_copyFrom 78 = .ok (.getfield 33, 3) := by decide +kernel
theorem dX2_copyFrom_81 : decode cX2_copyFrom 81 = .ok (.aload_n 0, 1) := by decide +kernel
theorem dX2_copyFrom_82 : decode cX2_copyFrom 82 = .ok (.getfield 33, 3) := by decide +kernel
theorem dX2_copyFrom_85 : decode cX2_copyFrom 85 = .ok (.invokestatic 36, 3) := by decide +kernel
theorem dX2_copyFrom_88 : decode cX2_copyFrom 88 = .ok (.aload_n 0, 1) := by decide +kernel
theorem dX2_copyFrom_89 : decode cX2_copyFrom 89 = .ok (.aload_n 1, 1) := by decide +kernel
theorem dX2_copyFrom_90 : decode cX2_copyFrom 90 = .ok (.getfield 40, 3) := by decide +kernel
theorem dX2_copyFrom_93 : decode cX2_copyFrom 93 = .ok (.putfield 40, 3) := by decide +kernel
theorem dX2_copyFrom_96 : decode cX2_copyFrom 96 = .ok (.return_, 1) := by decide +kernel
theorem dX2_add_0 : decode cX2_add 0 = .ok (.aload_n 0, 1) := by decide +kernel
theorem dX2_add_1 : decode cX2_add 1 = .ok (.getfield 40, 3) := by decide +kernel
theorem dX2_add_4 : decode cX2_add 4 = .ok (.bipush 10, 2) := by decide +kernel
theorem dX2_add_6 : decode cX2_add 6 = .ok (.if_icmp .lt 4, 3) := by decide +kernel
theorem dX2_add_9 : decode cX2_add 9 = .ok (.return_, 1) := by decide +kernel
theorem dX2_add_10 : decode cX2_add 10 = .ok (.aload_n 0, 1) := by decide +kernel
theorem dX2_add_11 : decode cX2_add 11 = .ok (.getfield 9, 3) := by decide +kernel
theorem dX2_add_14 : decode cX2_add 14 = .ok (.aload_n 0, 1) := by decide +kernel
theorem dX2_add_15 : decode cX2_add 15 = .ok (.getfield 40, 3) := by decide +kernel
theorem dX2_add_18 : decode cX2_add 18 = .ok (.iload_n 1, 1) := by decide +kernel
theorem dX2_add_19 : decode cX2_add 19 = .ok (.invokestatic 44, 3) := by decide +kernel
theorem dX2_add_22 : decode cX2_add 22 = .ok (.aload_n 0, 1) := by decide +kernel
theorem dX2_add_23 : decode cX2_add 23 = .ok (.getfield 15, 3) := by decide +kernel
theorem dX2_add_26 : decode cX2_add 26 = .ok (.aload_n 0, 1) := by decide +kernel
theorem dX2_add_27 : decode cX2_add 27 = .ok (.getfield 40, 3) := by decide +kernel
theorem dX2_add_30 : decode cX2_add 30 = .ok (.iload_n 2, 1) := by decide +kernel
theorem dX2_add_31 : decode cX2_add 31 = .ok (.invokestatic 44, 3) := by decide +kernel
theorem dX2_add_34 : decode cX2_add 34 = .ok (.aload_n 0, 1) := by decide +kernel
theorem dX2_add_35 : decode cX2_add 35 = .ok (.getfield 18, 3) := by decide +kernel
theorem dX2_add_38 : decode cX2_add 38 = .ok (.aload_n 0, 1) := by decide +kernel
theorem dX2_add_39 : decode cX2_add 39 = .ok (.getfield 40, 3) := by decide +kernel
theorem dX2_add_42 : decode cX2_add 42 = .ok (.iload_n 3, 1) := by decide +kernel
theorem dX2_add_43 : decode cX2_add 43 = .ok (.invokestatic 44, 3) := by decide +kernel
theorem dX2_add_46 : decode cX2_add 46 = .ok (.aload_n 0, 1) := by decide +kernel
theorem dX2_add_47 : decode cX2_add 47 = .ok (.getfield 21, 3) := by decide +kernel
theorem dX2_add_50 : decode cX2_add 50 = .ok (.aload_n 0, 1) := by decide +kernel
theorem dX2_add_51 : decode cX2_add 51 = .ok (.getfield 40, 3) := by decide +kernel
theorem dX2_add_54 : decode cX2_add 54 = .ok (.iconst 0, 1) := by decide +kernel
theorem dX2_add_55 : decode cX2_add 55 = .ok (.invokestatic 44, 3) := by decide +kernel
theorem dX2_add_58 : decode cX2_add 58 = .ok (.aload_n 0, 1) := by decide +kernel
theorem dX2_add_59 : decode cX2_add 59 = .ok (.getfield 24, 3) := by decide +kernel
theorem dX2_add_62 : decode cX2_add 62 = .ok (.aload_n 0, 1) := by decide +kernel
theorem dX2_add_63 : decode cX2_add 63 = .ok (.getfield 40, 3) := by decide +kernel
theorem dX2_add_66 : decode cX2_add 66 = .ok (.iconst 0, 1) := by decide +kernel
theorem dX2_add_67 : decode cX2_add 67 = .ok (.invokestatic 44, 3) := by decide +kernel
theorem dX2_add_70 : decode cX2_add 70 = .ok (.aload_n 0, 1) := by decide +kernel
theorem dX2_add_71 : decode cX2_add 71 = .ok (.getfield 27, 3) := by decide +kernel
theorem dX2_add_74 : decode cX2_add 74 = .ok (.aload_n 0, 1) := by decide +kernel
theorem dX2_add_75 : decode cX2_add 75 = .ok (.getfield 40, 3) := by decide +kernel
theorem dX2_add_78 : decode cX2_add 78 = .ok (.iconst 0, 1) := by decide +kernel
theorem dX2_add_79 : decode cX2_add 79 = .ok (.invokestatic 44, 3) := by decide +kernel
theorem dX2_add_82 : decode cX2_add 82 = .ok (.aload_n 0, 1) := by decide +kernel
theorem dX2_add_83 : decode cX2_add 83 = .ok (.dup, 1) := by decide +kernel
theorem dX2_add_84 : decode cX2_add 84 = .ok (.getfield 40, 3) := by decide +kernel
theorem dX2_add_87 : decode cX2_add 87 = .ok (.iconst 1, 1) := by decide +kernel
theorem dX2_add_88 : decode cX2_add 88 = .ok (.iadd, 1) := by decide +kernel
theorem dX2_add_89 : decode cX2_add 89 = .ok (.putfield 40, 3) := by decide +kernel
theorem dX2_add_92 : decode cX2_add 92 = .ok (.return_, 1) := by decide +kernel
theorem dX2_has_0 : decode cX2_has 0 = .ok (.iload_n 1, 1) := by decide +kernel
theorem dX2_has_1 : decode cX2_has 1 = .ok (.ifCond .lt 15, 3) := by decide +kernel
theorem dX2_has_4 : decode cX2_has 4 = .ok (.iload_n 1, 1) := by decide +kernel
theorem dX2_has_5 : decode cX2_has 5 = .ok (.aload_n 0, 1) := by decide +kernel
theorem dX2_has_6 : decode cX2_has 6 = .ok (.getfield 40, 3) := by decide +kernel
theorem dX2_has_9 : decode cX2_has 9 = .ok (.if_icmp .ge 7, 3) := by decide +kernel
theorem dX2_has_12 : decode cX2_has 12 = .ok (.iconst 1, 1) := by decide +kernel
theorem dX2_has_13 : decode cX2_has 13 = .ok (.goto 4, 3) := by decide +kernel
theorem dX2_has_16 : decode cX2_has 16 = .ok (.iconst 0, 1) := by decide +kernel
theorem dX2_has_17 : decode cX2_has 17 = .ok (.ireturn, 1) := by decide +kernel
theorem dX2_isOpen_0 : decode cX2_isOpen 0 = .ok (.aload_n 0, 1) := by decide +kernel
theorem dX2_isOpen_1 : decode cX2_isOpen 1 = .ok (.getfield 18, 3) := by decide +kernel
theorem dX2_isOpen_4 : decode cX2_isOpen 4 = .ok (.iload_n 1, 1) := by decide +kernel
theorem dX2_isOpen_5 : decode cX2_isOpen 5 = .ok (.invokestatic 48, 3) := by decide +kernel
theorem dX2_isOpen_8 : decode cX2_isOpen 8 = .ok (.iconst 1, 1) := by decide +kernel
theorem dX2_isOpen_9 : decode cX2_isOpen 9 = .ok (.if_icmp .ne 7, 3) := by decide +kernel
theorem dX2_isOpen_12 : decode cX2_isOpen 12 = .ok (.iconst 1, 1) := by decide +kernel
theorem dX2_isOpen_13 : decode cX2_isOpen 13 = .ok (.goto 4, 3) := by decide +kernel
theorem dX2_isOpen_16 : decode cX2_isOpen 16 = .ok (.iconst 0, 1) := by decide +kernel
theorem dX2_isOpen_17 : decode cX2_isOpen 17 = .ok (.ireturn, 1) := by decide +kernel
theorem dX2_behind_0 : decode cX2_behind 0 = .ok (.iload_n 1, 1) := by decide +kernel
theorem dX2_behind_1 : decode cX2_behind 1 = .ok (.iconst 1, 1) := by decide +kernel
theorem dX2_behind_2 : decode cX2_behind 2 = .ok (.iadd, 1) := by decide +kernel
theorem dX2_behind_3 : decode cX2_behind 3 = .ok (.aload_n 0, 1) := by decide +kernel
theorem dX2_behind_4 : decode cX2_behind 4 = .ok (.getfield 40, 3) := by decide +kernel
theorem dX2_behind_7 : decode cX2_behind 7 = .ok (.if_icmp .ge 9, 3) := by decide +kernel
theorem dX2_behind_10 : decode cX2_behind 10 = .ok (.iload_n 1, 1) := by decide +kernel
theorem dX2_behind_11 : decode cX2_behind 11 = .ok (.iconst 1, 1) := by decide +kernel
theorem dX2_behind_12 : decode cX2_behind 12 = .ok (.iadd, 1) := by decide +kernel
theorem dX2_behind_13 : decode cX2_behind 13 = .ok (.goto 4, 3) := by decide +kernel
theorem dX2_behind_16 : decode cX2_behind 16 = .ok (.iconst 0, 1) := by decide +kernel
theorem dX2_behind_17 : decode cX2_behind 17 = .ok (.ireturn, 1) := by decide +kernel
theorem dX2_isNameTaken_0 : decode cX2_isNameTaken 0 = .ok (.iconst 0, 1) := by decide +kernel
theorem dX2_isNameTaken_1 : decode cX2_isNameTaken 1 = .ok (.istore_n 2, 1) := by decide +kernel
theorem dX2_isNameTaken_2 : decode cX2_isNameTaken 2 = .ok (.iload_n 2, 1) := by decide +kernel
theorem dX2_isNameTaken_3 : decode cX2_isNameTaken 3 = .ok (.aload_n 0, 1) := by decide +kernel
theorem dX2_isNameTaken_4 : decode cX2_isNameTaken 4 = .ok (.getfield 40, 3) := by decide +kernel
theorem dX2_isNameTaken_7 : decode cX2_isNameTaken 7 = .ok (.if_icmp .ge 23, 3) := by decide +kernel
theorem dX2_isNameTaken_10 : decode cX2_isNameTaken 10 = .ok (.aload_n 0, 1) := by decide +kernel
theorem dX2_isNameTaken_11 : decode cX2_isNameTaken 11 = .ok (.getfield 15, 3) := by decide +kernel
theorem dX2_isNameTaken_14 : decode cX2_isNameTaken 14 = .ok (.iload_n 2, 1) := by decide +kernel
theorem dX2_isNameTaken_15 : decode cX2_isNameTaken 15 = .ok (.invokestatic 48, 3) := by decide +kernel
theorem dX2_isNameTaken_18 : decode cX2_isNameTaken 18 = .ok (.iload_n 1, 1) := by decide +kernel
theorem dX2_isNameTaken_19 : decode cX2_isNameTaken 19 = .ok (.if_icmp .ne 5, 3) := by decide +kernel
theorem dX2_isNameTaken_22 : decode cX2_isNameTaken 22 = .ok (.iconst 1, 1) := by decide +kernel
theorem dX2_isNameTaken_23 : decode cX2_isNameTaken 23 = .ok (.ireturn, 1) := by decide +kernel
theorem dX2_isNameTaken_24 : decode cX2_isNameTaken 24 = .ok (.iinc 2 1, 3) := by decide +kernel
theorem dX2_isNameTaken_27 : decode cX2_isNameTaken 27 = .ok (.goto (-25), 3) := by decide +kernel
theorem dX2_isNameTaken_30 : decode cX2_isNameTaken 30 = .ok (.iconst 0, 1) := by decide +kernel
theorem dX2_isNameTaken_31 : decode cX2_isNameTaken 31 = .ok (.ireturn, 1) := by decide +kernel
theorem dX2_openWithGreatestName_0 : decode cX2_openWithGreatestName 0 = .ok (.bipush (-2), 2) := by decide +kernel
theorem dX2_openWithGreatestName_2 : decode cX2_openWithGreatestName 2 = .ok (.istore_n 1, 1) := by decide +kernel
theorem dX2_openWithGreatestName_3 : decode cX2_openWithGreatestName 3 = .ok (.iconst 0, 1) := by decide +kernel
theorem dX2_openWithGreatestName_4 : decode cX2_openWithGreatestName 4 = .ok (.istore_n 2, 1) := by decide +kernel
theorem dX2_openWithGreatestName_5 : decode cX2_openWithGreatestName 5 = .ok (.iload_n 2, 1) := by decide +kernel
theorem dX2_openWithGreatestName_6 : decode cX2_openWithGreatestName 6 = .ok (.aload_n 0, 1) := by decide +kernel
theorem dX2_openWithGreatestName_7 : decode cX2_openWithGreatestName 7 = .ok (.getfield 40, 3) := by decide +kernel
theorem dX2_openWithGreatestName_10 : decode cX2_openWithGreatestName 10 = .ok (.if_icmp .ge 44, 3) := by decide +kernel
theorem dX2_openWithGreatestName_13 : decode cX2_openWithGreatestName 13 = .ok (.aload_n 0, 1) := by decide +kernel
theorem dX2_openWithGreatestName_14 : decode cX2_openWithGreatestName 14 = .ok (.iload_n 2, 1) := by decide +kernel
theorem dX2_openWithGreatestName_15 : decode cX2_openWithGreatestName 15 = .ok (.invokevirtual 52, 3) := by decide +kernel
theorem dX2_openWithGreatestName_18 : decode cX2_openWithGreatestName 18 = .ok (.ifCond .eq 30, 3) := by decide +kernel
theorem dX2_openWithGreatestName_21 : decode cX2_openWithGreatestName 21 = .ok (.iload_n 1, 1) := by decide +kernel
theorem dX2_openWithGreatestName_22 : decode cX2_openWithGreatestName 22 = .ok (.bipush (-2), 2) := by decide +kernel
theorem dX2_openWithGreatestName_24 : decode cX2_openWithGreatestName 24 = .ok (.if_icmp .eq 22, 3) := by decide +kernel
theorem dX2_openWithGreatestName_27 : decode cX2_openWithGreatestName 27 = .ok (.aload_n 0, 1) := by decide +kernel
theorem dX2_openWithGreatestName_28 : decode cX2_openWithGreatestName 28 = .ok (.getfield 15, 3) := by decide +kernel
theorem dX2_openWithGreatestName_31 : decode cX2_openWithGreatestName 31 = .ok (.iload_n 2, 1) := by decide +kernel
theorem dX2_openWithGreatestName_32 : decode cX2_openWithGreatestName 32 = .ok (.invokestatic 48, 3) := by decide +kernel
theorem dX2_openWithGreatestName_35 : decode cX2_openWithGreatestName 35 = .ok (.aload_n 0, 1) := by decide +kernel
theorem dX2_openWithGreatestName_36 : decode cX2_openWithGreatestName 36 = .ok (.getfield 15, 3) := by decide +kernel
theorem dX2_openWithGreatestName_39 : decode cX2_openWithGreatestName 39 = .ok (.iload_n 1, 1) := by decide +kernel
theorem dX2_openWithGreatestName_40 : decode cX2_openWithGreatestName 40 = .ok (.invokestatic 48, 3) := by decide +kernel
theorem dX2_openWithGreatestName_43 : decode cX2_openWithGreatestName 43 = .ok (.if_icmp .le 5, 3) := by decide +kernel
theorem dX2_openWithGreatestName_46 : decode cX2_openWithGreatestName 46 = .ok (.iload_n 2, 1) := by decide +kernel
theorem dX2_openWithGreatestName_47 : decode cX2_openWithGreatestName 47 = .ok (.istore_n 1, 1) := by decide +kernel
theorem dX2_openWithGreatestName_48 : decode cX2_openWithGreatestName 48 = .ok (.iinc 2 1, 3) := by decide +kernel
theorem dX2_openWithGreatestName_51 : decode cX2_openWithGreatestName 51 = .ok (.goto (-46), 3) := by decide +kernel
theorem dX2_openWithGreatestName_54 : decode cX2_openWithGreatestName 54 = .ok (.iload_n 1, 1) := by decide +kernel
theorem dX2_openWithGreatestName_55 : decode cX2_openWithGreatestName 55 = .ok (.ireturn, 1) := by decide +kernel
theorem dX2_howManyOpen_0 : decode cX2_howManyOpen 0 = .ok (.iconst 0, 1) := by decide +kernel
theorem dX2_howManyOpen_1 : decode cX2_howManyOpen 1 = .ok (.istore_n 1, 1) := by decide +kernel
theorem dX2_howManyOpen_2 : decode cX2_howManyOpen 2 = .ok (.iconst 0, 1) := by decide +kernel
theorem dX2_howManyOpen_3 : decode cX2_howManyOpen 3 = .ok (.istore_n 2, 1) := by decide +kernel
theorem dX2_howManyOpen_4 : decode cX2_howManyOpen 4 = .ok (.iload_n 2, 1) := by decide +kernel
theorem dX2_howManyOpen_5 : decode cX2_howManyOpen 5 = .ok (.aload_n 0, 1) := by decide +kernel
theorem dX2_howManyOpen_6 : decode cX2_howManyOpen 6 = .ok (.getfield 40, 3) := by decide +kernel
theorem dX2_howManyOpen_9 : decode cX2_howManyOpen 9 = .ok (.if_icmp .ge 20, 3) := by decide +kernel
theorem dX2_howManyOpen_12 : decode cX2_howManyOpen 12 = .ok (.iload_n 1, 1) := by decide +kernel
theorem dX2_howManyOpen_13 : decode cX2_howManyOpen 13 = .ok (.aload_n 0, 1) := by decide +kernel
theorem dX2_howManyOpen_14 : decode cX2_howManyOpen 14 = .ok (.getfield 18, 3) := by decide +kernel
theorem dX2_howManyOpen_17 : decode cX2_howManyOpen 17 = .ok (.iload_n 2, 1) := by decide +kernel
theorem dX2_howManyOpen_18 : decode cX2_howManyOpen 18 = .ok (.invokestatic 48, 3) := by decide +kernel
theorem dX2_howManyOpen_21 : decode cX2_howManyOpen 21 = .ok (.iadd, 1) := by decide +kernel
theorem dX2_howManyOpen_22 : decode cX2_howManyOpen 22 = .ok (.istore_n 1, 1) := by decide +kernel
theorem dX2_howManyOpen_23 : decode cX2_howManyOpen 23 = .ok (.iinc 2 1, 3) := by decide +kernel
theorem dX2_howManyOpen_26 : decode cX2_howManyOpen 26 = .ok (.goto (-22), 3) := by decide +kernel
theorem dX2_howManyOpen_29 : decode cX2_howManyOpen 29 = .ok (.iload_n 1, 1) := by decide +kernel
theorem dX2_howManyOpen_30 : decode cX2_howManyOpen 30 = .ok (.ireturn, 1) := by decide +kernel
theorem dX2_beginDay_0 : decode cX2_beginDay 0 = .ok (.iconst 0, 1) := by decide +kernel
theorem dX2_beginDay_1 : decode cX2_beginDay 1 = .ok (.istore_n 1, 1) := by decide +kernel
theorem dX2_beginDay_2 : decode cX2_beginDay 2 = .ok (.iload_n 1, 1) := by decide +kernel
theorem dX2_beginDay_3 : decode cX2_beginDay 3 = .ok (.aload_n 0, 1) := by decide +kernel
theorem dX2_beginDay_4 : decode cX2_beginDay 4 = .ok (.getfield 40, 3) := by decide +kernel
theorem dX2_beginDay_7 : decode cX2_beginDay 7 = .ok (.if_icmp .ge 18, 3) := by decide +kernel
theorem dX2_beginDay_10 : decode cX2_beginDay 10 = .ok (.aload_n 0, 1) := by decide +kernel
theorem dX2_beginDay_11 : decode cX2_beginDay 11 = .ok (.getfield 21, 3) := by decide +kernel
theorem dX2_beginDay_14 : decode cX2_beginDay 14 = .ok (.iload_n 1, 1) := by decide +kernel
theorem dX2_beginDay_15 : decode cX2_beginDay 15 = .ok (.iconst 0, 1) := by decide +kernel
theorem dX2_beginDay_16 : decode cX2_beginDay 16 = .ok (.invokestatic 44, 3) := by decide +kernel
theorem dX2_beginDay_19 : decode cX2_beginDay 19 = .ok (.iinc 1 1, 3) := by decide +kernel
theorem dX2_beginDay_22 : decode cX2_beginDay 22 = .ok (.goto (-20), 3) := by decide +kernel
theorem dX2_beginDay_25 : decode cX2_beginDay 25 = .ok (.return_, 1) := by decide +kernel
theorem dX2_toOf_0 : decode cX2_toOf 0 = .ok (.aload_n 0, 1) := by decide +kernel
theorem dX2_toOf_1 : decode cX2_toOf 1 = .ok (.getfield 30, 3) := by decide +kernel
theorem dX2_toOf_4 : decode cX2_toOf 4 = .ok (.iload_n 1, 1) := by decide +kernel
theorem dX2_toOf_5 : decode cX2_toOf 5 = .ok (.bipush 6, 2) := by decide +kernel
theorem dX2_toOf_7 : decode cX2_toOf 7 = .ok (.imul, 1) := by decide +kernel
theorem dX2_toOf_8 : decode cX2_toOf 8 = .ok (.iload_n 2, 1) := by decide +kernel
theorem dX2_toOf_9 : decode cX2_toOf 9 = .ok (.iadd, 1) := by decide +kernel
theorem dX2_toOf_10 : decode cX2_toOf 10 = .ok (.invokestatic 48, 3) := by decide +kernel
theorem dX2_toOf_13 : decode cX2_toOf 13 = .ok (.ireturn, 1) := by decide +kernel
theorem dX2_lengthOf_0 : decode cX2_lengthOf 0 = .ok (.aload_n 0, 1) := by decide +kernel
theorem dX2_lengthOf_1 : decode cX2_lengthOf 1 = .ok (.getfield 33, 3) := by decide +kernel
theorem dX2_lengthOf_4 : decode cX2_lengthOf 4 = .ok (.iload_n 1, 1) := by decide +kernel
theorem dX2_lengthOf_5 : decode cX2_lengthOf 5 = .ok (.bipush 6, 2) := by decide +kernel
theorem dX2_lengthOf_7 : decode cX2_lengthOf 7 = .ok (.imul, 1) := by decide +kernel
theorem dX2_lengthOf_8 : decode cX2_lengthOf 8 = .ok (.iload_n 2, 1) := by decide +kernel
theorem dX2_lengthOf_9 : decode cX2_lengthOf 9 = .ok (.iadd, 1) := by decide +kernel
theorem dX2_lengthOf_10 : decode cX2_lengthOf 10 = .ok (.invokestatic 48, 3) := by decide +kernel
theorem dX2_lengthOf_13 : decode cX2_lengthOf 13 = .ok (.ireturn, 1) := by decide +kernel
theorem dX2_addLetter_0 : decode cX2_addLetter 0 = .ok (.aload_n 0, 1) := by decide +kernel
theorem dX2_addLetter_1 : decode cX2_addLetter 1 = .ok (.getfield 27, 3) := by decide +kernel
theorem dX2_addLetter_4 : decode cX2_addLetter 4 = .ok (.iload_n 1, 1) := by decide +kernel
theorem dX2_addLetter_5 : decode cX2_addLetter 5 = .ok (.invokestatic 48, 3) := by decide +kernel
theorem dX2_addLetter_8 : decode cX2_addLetter 8 = .ok (.istore 4, 2) := by decide +kernel
theorem dX2_addLetter_10 : decode cX2_addLetter 10 = .ok (.iload 4, 2) := by decide +kernel
theorem dX2_addLetter_12 : decode cX2_addLetter 12 = .ok (.bipush 6, 2) := by decide +kernel
theorem dX2_addLetter_14 : decode cX2_addLetter 14 = .ok (.if_icmp .lt 4, 3) := by decide +kernel
theorem dX2_addLetter_17 : decode cX2_addLetter 17 = .ok (.return_, 1) := by decide +kernel
theorem dX2_addLetter_18 : decode cX2_addLetter 18 = .ok (.aload_n 0, 1) := by decide +kernel
theorem dX2_addLetter_19 : decode cX2_addLetter 19 = .ok (.getfield 30, 3) := by decide +kernel
theorem dX2_addLetter_22 : decode cX2_addLetter 22 = .ok (.iload_n 1, 1) := by decide +kernel
theorem dX2_addLetter_23 : decode cX2_addLetter 23 = .ok (.bipush 6, 2) := by decide +kernel
theorem dX2_addLetter_25 : decode cX2_addLetter 25 = .ok (.imul, 1) := by decide +kernel
theorem dX2_addLetter_26 : decode cX2_addLetter 26 = .ok (.iload 4, 2) := by decide +kernel
theorem dX2_addLetter_28 : decode cX2_addLetter 28 = .ok (.iadd, 1) := by decide +kernel
theorem dX2_addLetter_29 : decode cX2_addLetter 29 = .ok (.iload_n 2, 1) := by decide +kernel
theorem dX2_addLetter_30 : decode cX2_addLetter 30 = .ok (.invokestatic 44, 3) := by decide +kernel
theorem dX2_addLetter_33 : decode cX2_addLetter 33 = .ok (.aload_n 0, 1) := by decide +kernel
theorem dX2_addLetter_34 : decode cX2_addLetter 34 = .ok (.getfield 33, 3) := by decide +kernel
theorem dX2_addLetter_37 : decode cX2_addLetter 37 = .ok (.iload_n 1, 1) := by decide +kernel
theorem dX2_addLetter_38 : decode cX2_addLetter 38 = .ok (.bipush 6, 2) := by decide +kernel
theorem dX2_addLetter_40 : decode cX2_addLetter 40 = .ok (.imul, 1) := by decide +kernel
theorem dX2_addLetter_41 : decode cX2_addLetter 41 = .ok (.iload 4, 2) := by decide +kernel
theorem dX2_addLetter_43 : decode cX2_addLetter 43 = .ok (.iadd, 1) := by decide +kernel
theorem dX2_addLetter_44 : decode cX2_addLetter 44 = .ok (.iload_n 3, 1) := by decide +kernel
theorem dX2_addLetter_45 : decode cX2_addLetter 45 = .ok (.invokestatic 44, 3) := by decide +kernel
theorem dX2_addLetter_48 : decode cX2_addLetter 48 = .ok (.aload_n 0, 1) := by decide +kernel
theorem dX2_addLetter_49 : decode cX2_addLetter 49 = .ok (.getfield 27, 3) := by decide +kernel
theorem dX2_addLetter_52 : decode cX2_addLetter 52 = .ok (.iload_n 1, 1) := by decide +kernel
theorem dX2_addLetter_53 : decode cX2_addLetter 53 = .ok (.iload 4, 2) := by decide +kernel
theorem dX2_addLetter_55 : decode cX2_addLetter 55 = .ok (.iconst 1, 1) := by decide +kernel
theorem dX2_addLetter_56 : decode cX2_addLetter 56 = .ok (.iadd, 1) := by decide +kernel
theorem dX2_addLetter_57 : decode cX2_addLetter 57 = .ok (.invokestatic 44, 3) := by decide +kernel
theorem dX2_addLetter_60 : decode cX2_addLetter 60 = .ok (.return_, 1) := by decide +kernel
theorem dX2_removeLetter_0 : decode cX2_removeLetter 0 = .ok (.iload_n 1, 1) := by decide +kernel
theorem dX2_removeLetter_1 : decode cX2_removeLetter 1 = .ok (.bipush 6, 2) := by decide +kernel
theorem dX2_removeLetter_3 : decode cX2_removeLetter 3 = .ok (.imul, 1) := by decide +kernel
theorem dX2_removeLetter_4 : decode cX2_removeLetter 4 = .ok (.istore_n 3, 1) := by decide +kernel
theorem dX2_removeLetter_5 : decode cX2_removeLetter 5 = .ok (.aload_n 0, 1) := by decide +kernel
theorem dX2_removeLetter_6 : decode cX2_removeLetter 6 = .ok (.getfield 27, 3) := by decide +kernel
theorem dX2_removeLetter_9 : decode cX2_removeLetter 9 = .ok (.iload_n 1, 1) := by decide +kernel
theorem dX2_removeLetter_10 : decode cX2_removeLetter 10 = .ok (.invokestatic 48, 3) := by decide +kernel
theorem dX2_removeLetter_13 : decode cX2_removeLetter 13 = .ok (.istore 4, 2) := by decide +kernel
theorem dX2_removeLetter_15 : decode cX2_removeLetter 15 = .ok (.aload_n 0, 1) := by decide +kernel
theorem dX2_removeLetter_16 : decode cX2_removeLetter 16 = .ok (.getfield 30, 3) := by decide +kernel
theorem dX2_removeLetter_19 : decode cX2_removeLetter 19 = .ok (.iload_n 3, 1) := by decide +kernel
theorem dX2_removeLetter_20 : decode cX2_removeLetter 20 = .ok (.iload_n 2, 1) := by decide +kernel
theorem dX2_removeLetter_21 : decode cX2_removeLetter 21 = .ok (.iadd, 1) := by decide +kernel
theorem dX2_removeLetter_22 : decode cX2_removeLetter 22 = .ok (.iload_n 3, 1) := by decide +kernel
theorem dX2_removeLetter_23 : decode cX2_removeLetter 23 = .ok (.iload 4, 2) := by decide +kernel
theorem dX2_removeLetter_25 : decode cX2_removeLetter 25 = .ok (.iadd, 1) := by decide +kernel
theorem dX2_removeLetter_26 : decode cX2_removeLetter 26 = .ok (.invokestatic 56, 3) := by decide +kernel
theorem dX2_removeLetter_29 : decode cX2_removeLetter 29 = .ok (.aload_n 0, 1) := by decide +kernel
theorem dX2_removeLetter_30 : decode cX2_removeLetter 30 = .ok (.getfield 33, 3) := by decide +kernel
theorem dX2_removeLetter_33 : decode cX2_removeLetter 33 = .ok (.iload_n 3, 1) := by decide +kernel
theorem dX2_removeLetter_34 : decode cX2_removeLetter 34 = .ok (.iload_n 2, 1) := by decide +kernel
theorem dX2_removeLetter_35 : decode cX2_removeLetter 35 = .ok (.iadd, 1) := by decide +kernel
theorem dX2_removeLetter_36 : decode cX2_removeLetter 36 = .ok (.iload_n 3, 1) := by decide +kernel
theorem dX2_removeLetter_37 : decode cX2_removeLetter 37 = .ok (.iload 4, 2) := by decide +kernel
theorem dX2_removeLetter_39 : decode cX2_removeLetter 39 = .ok (.iadd, 1) := by decide +kernel
theorem dX2_removeLetter_40 : decode cX2_removeLetter 40 = .ok (.invokestatic 56, 3) := by decide +kernel
theorem dX2_removeLetter_43 : decode cX2_removeLetter 43 = .ok (.aload_n 0, 1) := by decide +kernel
theorem dX2_removeLetter_44 : decode cX2_removeLetter 44 = .ok (.getfield 27, 3) := by decide +kernel
theorem dX2_removeLetter_47 : decode cX2_removeLetter 47 = .ok (.iload_n 1, 1) := by decide +kernel
theorem dX2_removeLetter_48 : decode cX2_removeLetter 48 = .ok (.iload 4, 2) := by decide +kernel
theorem dX2_removeLetter_50 : decode cX2_removeLetter 50 = .ok (.iconst 1, 1) := by decide +kernel
theorem dX2_removeLetter_51 : decode cX2_removeLetter 51 = .ok (.isub, 1) := by decide +kernel
theorem dX2_removeLetter_52 : decode cX2_removeLetter 52 = .ok (.invokestatic 44, 3) := by decide +kernel
theorem dX2_removeLetter_55 : decode cX2_removeLetter 55 = .ok (.return_, 1) := by decide +kernel
theorem dX2_lengthInQueue_0 : decode cX2_lengthInQueue 0 = .ok (.iconst 0, 1) := by decide +kernel
theorem dX2_lengthInQueue_1 : decode cX2_lengthInQueue 1 = .ok (.istore_n 2, 1) := by decide +kernel
theorem dX2_lengthInQueue_2 : decode cX2_lengthInQueue 2 = .ok (.iconst 0, 1) := by decide +kernel
theorem dX2_lengthInQueue_3 : decode cX2_lengthInQueue 3 = .ok (.istore_n 3, 1) := by decide +kernel
theorem dX2_lengthInQueue_4 : decode cX2_lengthInQueue 4 = .ok (.iload_n 3, 1) := by decide +kernel
theorem dX2_lengthInQueue_5 : decode cX2_lengthInQueue 5 = .ok (.aload_n 0, 1) := by decide +kernel
theorem dX2_lengthInQueue_6 : decode cX2_lengthInQueue 6 = .ok (.getfield 27, 3) := by decide +kernel
theorem dX2_lengthInQueue_9 : decode cX2_lengthInQueue 9 = .ok (.iload_n 1, 1) := by decide +kernel
theorem dX2_lengthInQueue_10 : decode cX2_lengthInQueue 10 = .ok (.invokestatic 48, 3) := by decide +kernel
theorem dX2_lengthInQueue_13 : decode cX2_lengthInQueue 13 = .ok (.if_icmp .ge 18, 3) := by decide +kernel
theorem dX2_lengthInQueue_16 : decode cX2_lengthInQueue 16 = .ok (.iload_n 2, 1) := by decide +kernel
theorem dX2_lengthInQueue_17 : decode cX2_lengthInQueue 17 = .ok (.aload_n 0, 1) := by decide +kernel
theorem dX2_lengthInQueue_18 : decode cX2_lengthInQueue 18 = .ok (.iload_n 1, 1) := by decide +kernel
theorem dX2_lengthInQueue_19 : decode cX2_lengthInQueue 19 = .ok (.iload_n 3, 1) := by decide +kernel
theorem dX2_lengthInQueue_20 : decode cX2_lengthInQueue 20 = .ok (.invokevirtual 59, 3) := by decide +kernel
theorem dX2_lengthInQueue_23 : decode cX2_lengthInQueue 23 = .ok (.iadd, 1) := by decide +kernel
theorem dX2_lengthInQueue_24 : decode cX2_lengthInQueue 24 = .ok (.istore_n 2, 1) := by decide +kernel
theorem dX2_lengthInQueue_25 : decode cX2_lengthInQueue 25 = .ok (.iinc 3 1, 3) := by decide +kernel
theorem dX2_lengthInQueue_28 : decode cX2_lengthInQueue 28 = .ok (.goto (-24), 3) := by decide +kernel
theorem dX2_lengthInQueue_31 : decode cX2_lengthInQueue 31 = .ok (.iload_n 2, 1) := by decide +kernel
theorem dX2_lengthInQueue_32 : decode cX2_lengthInQueue 32 = .ok (.ireturn, 1) := by decide +kernel
theorem dX2_lengthInAll_0 : decode cX2_lengthInAll 0 = .ok (.iconst 0, 1) := by decide +kernel
theorem dX2_lengthInAll_1 : decode cX2_lengthInAll 1 = .ok (.istore_n 1, 1) := by decide +kernel
theorem dX2_lengthInAll_2 : decode cX2_lengthInAll 2 = .ok (.iconst 0, 1) := by decide +kernel
theorem dX2_lengthInAll_3 : decode cX2_lengthInAll 3 = .ok (.istore_n 2, 1) := by decide +kernel
theorem dX2_lengthInAll_4 : decode cX2_lengthInAll 4 = .ok (.iload_n 2, 1) := by decide +kernel
theorem dX2_lengthInAll_5 : decode cX2_lengthInAll 5 = .ok (.aload_n 0, 1) := by decide +kernel
theorem dX2_lengthInAll_6 : decode cX2_lengthInAll 6 = .ok (.getfield 40, 3) := by decide +kernel
theorem dX2_lengthInAll_9 : decode cX2_lengthInAll 9 = .ok (.if_icmp .ge 17, 3) := by decide +kernel
theorem dX2_lengthInAll_12 : decode cX2_lengthInAll 12 = .ok (.iload_n 1, 1) := by decide +kernel
theorem dX2_lengthInAll_13 : decode cX2_lengthInAll 13 = .ok (.aload_n 0, 1) := by decide +kernel
theorem dX2_lengthInAll_14 : decode cX2_lengthInAll 14 = .ok (.iload_n 2, 1) := by decide +kernel
theorem dX2_lengthInAll_15 : decode cX2_lengthInAll 15 = .ok (.invokevirtual 63, 3) := by decide +kernel
theorem dX2_lengthInAll_18 : decode cX2_lengthInAll 18 = .ok (.iadd, 1) := by decide +kernel
theorem dX2_lengthInAll_19 : decode cX2_lengthInAll 19 = .ok (.istore_n 1, 1) := by decide +kernel
theorem dX2_lengthInAll_20 : decode cX2_lengthInAll 20 = .ok (.iinc 2 1, 3) := by decide +kernel
theorem dX2_lengthInAll_23 : decode cX2_lengthInAll 23 = .ok (.goto (-19), 3) := by decide +kernel
theorem dX2_lengthInAll_26 : decode cX2_lengthInAll 26 = .ok (.iload_n 1, 1) := by decide +kernel
theorem dX2_lengthInAll_27 : decode cX2_lengthInAll 27 = .ok (.ireturn, 1) := by decide +kernel
theorem dX2_lettersInAll_0 : decode cX2_lettersInAll 0 = .ok (.iconst 0, 1) := by decide +kernel
theorem dX2_lettersInAll_1 : decode cX2_lettersInAll 1 = .ok (.istore_n 1, 1) := by decide +kernel
theorem dX2_lettersInAll_2 : decode cX2_lettersInAll 2 = .ok (.iconst 0, 1) := by decide +kernel
theorem dX2_lettersInAll_3 : decode cX2_lettersInAll 3 = .ok (.istore_n 2, 1) := by decide +kernel
theorem dX2_lettersInAll_4 : decode cX2_lettersInAll 4 = .ok (.iload_n 2, 1) := by decide +kernel
theorem dX2_lettersInAll_5 : decode cX2_lettersInAll 5 = .ok (.aload_n 0, 1) := by decide +kernel
theorem dX2_lettersInAll_6 : decode cX2_lettersInAll 6 = .ok (.getfield 40, 3) := by decide +kernel
theorem dX2_lettersInAll_9 : decode cX2_lettersInAll 9 = .ok (.if_icmp .ge 20, 3) := by decide +kernel
theorem dX2_lettersInAll_12 : decode cX2_lettersInAll 12 = .ok (.iload_n 1, 1) := by decide +kernel
theorem dX2_lettersInAll_13 : decode cX2_lettersInAll 13 = .ok (.aload_n 0, 1) := by decide +kernel
theorem dX2_lettersInAll_14 : decode cX2_lettersInAll 14 = .ok (.getfield 27, 3) := by decide +kernel
theorem dX2_lettersInAll_17 : decode cX2_lettersInAll 17 = .ok (.iload_n 2, 1) := by decide +kernel
theorem dX2_lettersInAll_18 : decode cX2_lettersInAll 18 = .ok (.invokestatic 48, 3) := by decide +kernel
theorem dX2_lettersInAll_21 : decode cX2_lettersInAll 21 = .ok (.iadd, 1) := by decide +kernel
theorem dX2_lettersInAll_22 : decode cX2_lettersInAll 22 = .ok (.istore_n 1, 1) := by decide +kernel
theorem dX2_lettersInAll_23 : decode cX2_lettersInAll 23 = .ok (.iinc 2 1, 3) := by decide +kernel
theorem dX2_lettersInAll_26 : decode cX2_lettersInAll 26 = .ok (.goto (-22), 3) := by decide +kernel
theorem dX2_lettersInAll_29 : decode cX2_lettersInAll 29 = .ok (.iload_n 1, 1) := by decide +kernel
theorem dX2_lettersInAll_30 : decode cX2_lettersInAll 30 = .ok (.ireturn, 1) := by decide +kernel
theorem dX2_lettersTo_0 : decode cX2_lettersTo 0 = .ok (.iconst 0, 1) := by decide +kernel
theorem dX2_lettersTo_1 : decode cX2_lettersTo 1 = .ok (.istore_n 2, 1) := by decide +kernel
theorem dX2_lettersTo_2 : decode cX2_lettersTo 2 = .ok (.iconst 0, 1) := by decide +kernel
theorem dX2_lettersTo_3 : decode cX2_lettersTo 3 = .ok (.istore_n 3, 1) := by decide +kernel
theorem dX2_lettersTo_4 : decode cX2_lettersTo 4 = .ok (.iload_n 3, 1) := by decide +kernel
theorem dX2_lettersTo_5 : decode cX2_lettersTo 5 = .ok (.aload_n 0, 1) := by decide +kernel
theorem dX2_lettersTo_6 : decode cX2_lettersTo 6 = .ok (.getfield 40, 3) := by decide +kernel
theorem dX2_lettersTo_9 : decode cX2_lettersTo 9 = .ok (.if_icmp .ge 45, 3) := by decide +kernel
theorem dX2_lettersTo_12 : decode cX2_lettersTo 12 = .ok (.iconst 0, 1) := by decide +kernel
theorem dX2_lettersTo_13 : decode cX2_lettersTo 13 = .ok (.istore 4, 2) := by decide +kernel
theorem dX2_lettersTo_15 : decode cX2_lettersTo 15 = .ok (.iload 4, 2) := by decide +kernel
theorem dX2_lettersTo_17 : decode cX2_lettersTo 17 = .ok (.aload_n 0, 1) := by decide +kernel
theorem dX2_lettersTo_18 : decode cX2_lettersTo 18 = .ok (.getfield 27, 3) := by decide +kernel
theorem dX2_lettersTo_21 : decode cX2_lettersTo 21 = .ok (.iload_n 3, 1) := by decide +kernel
theorem dX2_lettersTo_22 : decode cX2_lettersTo 22 = .ok (.invokestatic 48, 3) := by decide +kernel
theorem dX2_lettersTo_25 : decode cX2_lettersTo 25 = .ok (.if_icmp .ge 23, 3) := by decide +kernel
theorem dX2_lettersTo_28 : decode cX2_lettersTo 28 = .ok (.aload_n 0, 1) := by decide +kernel
theorem dX2_lettersTo_29 : decode cX2_lettersTo 29 = .ok (.iload_n 3, 1) := by decide +kernel
theorem dX2_lettersTo_30 : decode cX2_lettersTo 30 = .ok (.iload 4, 2) := by decide +kernel
theorem dX2_lettersTo_32 : decode cX2_lettersTo 32 = .ok (.invokevirtual 67, 3) := by decide +kernel
theorem dX2_lettersTo_35 : decode cX2_lettersTo 35 = .ok (.iload_n 1, 1) := by decide +kernel
theorem dX2_lettersTo_36 : decode cX2_lettersTo 36 = .ok (.if_icmp .ne 6, 3) := by decide +kernel
theorem dX2_lettersTo_39 : decode cX2_lettersTo 39 = .ok (.iinc 2 1, 3) := by decide +kernel
theorem dX2_lettersTo_42 : decode cX2_lettersTo 42 = .ok (.iinc 4 1, 3) := by decide +kernel
theorem dX2_lettersTo_45 : decode cX2_lettersTo 45 = .ok (.goto (-30), 3) := by decide +kernel
theorem dX2_lettersTo_48 : decode cX2_lettersTo 48 = .ok (.iinc 3 1, 3) := by decide +kernel
theorem dX2_lettersTo_51 : decode cX2_lettersTo 51 = .ok (.goto (-47), 3) := by decide +kernel
theorem dX2_lettersTo_54 : decode cX2_lettersTo 54 = .ok (.iload_n 2, 1) := by decide +kernel
theorem dX2_lettersTo_55 : decode cX2_lettersTo 55 = .ok (.ireturn, 1) := by decide +kernel
theorem dX3_init_0 : decode cX3_init 0 = .ok (.aload_n 0, 1) := by decide +kernel
theorem dX3_init_1 : decode cX3_init 1 = .ok (.invokespecial 3, 3) := by decide +kernel
theorem dX3_init_4 : decode cX3_init 4 = .ok (.aload_n 0, 1) := by decide +kernel
theorem dX3_init_5 : decode cX3_init 5 = .ok (.new 9, 3) := by decide +kernel
theorem dX3_init_8 : decode cX3_init 8 = .ok (.dup, 1) := by decide +kernel
theorem dX3_init_9 : decode cX3_init 9 = .ok (.sipush 1200, 3) := by decide +kernel
theorem dX3_init_12 : decode cX3_init 12 = .ok (.invokespecial 11, 3) := by decide +kernel
theorem dX3_init_15 : decode cX3_init 15 = .ok (.putfield 14, 3) := by decide +kernel
theorem dX3_init_18 : decode cX3_init 18 = .ok (.return_, 1) := by decide +kernel
theorem dX3_begin_0 : decode cX3_begin 0 = .ok (.aload_n 0, 1) := by decide +kernel
theorem dX3_begin_1 : decode cX3_begin 1 = .ok (.iconst 0, 1) := by decide +kernel
theorem dX3_begin_2 : decode cX3_begin 2 = .ok (.putfield 20, 3) := by decide +kernel
theorem dX3_begin_5 : decode cX3_begin 5 = .ok (.aload_n 0, 1) := by decide +kernel
theorem dX3_begin_6 : decode cX3_begin 6 = .ok (.invokevirtual 24, 3) := by decide +kernel
theorem dX3_begin_9 : decode cX3_begin 9 = .ok (.return_, 1) := by decide +kernel
theorem dX3_advance_0 : decode cX3_advance 0 = .ok (.aload_n 0, 1) := by decide +kernel
theorem dX3_advance_1 : decode cX3_advance 1 = .ok (.invokevirtual 27, 3) := by decide +kernel
theorem dX3_advance_4 : decode cX3_advance 4 = .ok (.aload_n 0, 1) := by decide +kernel
theorem dX3_advance_5 : decode cX3_advance 5 = .ok (.getfield 14, 3) := by decide +kernel
theorem dX3_advance_8 : decode cX3_advance 8 = .ok (.aload_n 0, 1) := by decide +kernel
theorem dX3_advance_9 : decode cX3_advance 9 = .ok (.getfield 30, 3) := by decide +kernel
theorem dX3_advance_12 : decode cX3_advance 12 = .ok (.invokevirtual 33, 3) := by decide +kernel
theorem dX3_advance_15 : decode cX3_advance 15 = .ok (.istore_n 1, 1) := by decide +kernel
theorem dX3_advance_16 : decode cX3_advance 16 = .ok (.aload_n 0, 1) := by decide +kernel
theorem dX3_advance_17 : decode cX3_advance 17 = .ok (.getfield 30, 3) := by decide +kernel
theorem dX3_advance_20 : decode cX3_advance 20 = .ok (.aload_n 0, 1) := by decide +kernel
theorem dX3_advance_21 : decode cX3_advance 21 = .ok (.getfield 14, 3) := by decide +kernel
theorem dX3_advance_24 : decode cX3_advance 24 = .ok (.getfield 37, 3) := by decide +kernel
theorem dX3_advance_27 : decode cX3_advance 27 = .ok (.if_icmp .lt 12, 3) := by decide +kernel
theorem dX3_advance_30 : decode cX3_advance 30 = .ok (.aload_n 0, 1) := by decide +kernel
theorem dX3_advance_31 : decode cX3_advance 31 = .ok (.bipush 9, 2) := by decide +kernel
theorem dX3_advance_33 : decode cX3_advance 33 = .ok (.putfield 40, 3) := by decide +kernel
theorem dX3_advance_36 : decode cX3_advance 36 = .ok (.goto 36, 3) := by decide +kernel
theorem dX3_advance_39 : decode cX3_advance 39 = .ok (.iload_n 1, 1) := by decide +kernel
theorem dX3_advance_40 : decode cX3_advance 40 = .ok (.invokestatic 43, 3) := by decide +kernel
theorem dX3_advance_43 : decode cX3_advance 43 = .ok (.ifCond .eq 10, 3) := by decide +kernel
theorem dX3_advance_46 : decode cX3_advance 46 = .ok (.aload_n 0, 1) := by decide +kernel
theorem dX3_advance_47 : decode cX3_advance 47 = .ok (.invokevirtual 47, 3) := by decide +kernel
theorem dX3_advance_50 : decode cX3_advance 50 = .ok (.goto 22, 3) := by decide +kernel
theorem dX3_advance_53 : decode cX3_advance 53 = .ok (.iload_n 1, 1) := by decide +kernel
theorem dX3_advance_54 : decode cX3_advance 54 = .ok (.invokestatic 50, 3) := by decide +kernel
theorem dX3_advance_57 : decode cX3_advance 57 = .ok (.ifCond .eq 10, 3) := by decide +kernel
theorem dX3_advance_60 : decode cX3_advance 60 = .ok (.aload_n 0, 1) := by decide +kernel
theorem dX3_advance_61 : decode cX3_advance 61 = .ok (.invokevirtual 53, 3) := by decide +kernel
theorem dX3_advance_64 : decode cX3_advance 64 = .ok (.goto 8, 3) := by decide +kernel
theorem dX3_advance_67 : decode cX3_advance 67 = .ok (.aload_n 0, 1) := by decide +kernel
theorem dX3_advance_68 : decode cX3_advance 68 = .ok (.iload_n 1, 1) := by decide +kernel
theorem dX3_advance_69 : decode cX3_advance 69 = .ok (.invokevirtual 56, 3) := by decide +kernel
theorem dX3_advance_72 : decode cX3_advance 72 = .ok (.return_, 1) := by decide +kernel
theorem dX3_skipWhiteSpace_0 : decode cX3_skipWhiteSpace 0 = .ok (.aload_n 0, 1) := by decide +kernel
theorem dX3_skipWhiteSpace_1 : decode cX3_skipWhiteSpace 1 = .ok (.aload_n 0, 1) := by decide +kernel
theorem dX3_skipWhiteSpace_2 : decode cX3_skipWhiteSpace 2 = .ok (.getfield 20, 3) := by decide +kernel
theorem dX3_skipWhiteSpace_5 : decode cX3_skipWhiteSpace 5 = .ok (.putfield 30, 3) := by decide +kernel
theorem dX3_skipWhiteSpace_8 : decode cX3_skipWhiteSpace 8 = .ok (.aload_n 0, 1) := by decide +kernel
theorem dX3_skipWhiteSpace_9 : decode cX3_skipWhiteSpace 9 = .ok (.getfield 30, 3) := by decide +kernel
theorem dX3_skipWhiteSpace_12 : decode cX3_skipWhiteSpace 12 = .ok (.aload_n 0, 1) := by decide +kernel
theorem dX3_skipWhiteSpace_13 : decode cX3_skipWhiteSpace 13 = .ok (.getfield 14, 3) := by decide +kernel
theorem dX3_skipWhiteSpace_16 : decode cX3_skipWhiteSpace 16 = .ok (.getfield 37, 3) := by decide +kernel
theorem dX3_skipWhiteSpace_19 : decode cX3_skipWhiteSpace 19 = .ok (.if_icmp .ge 33, 3) := by decide +kernel
theorem dX3_skipWhiteSpace_22 : decode cX3_skipWhiteSpace 22 = .ok (.aload_n 0, 1) := by decide +kernel
theorem dX3_skipWhiteSpace_23 : decode cX3_skipWhiteSpace 23 = .ok (.getfield 14, 3) := by decide +kernel
theorem dX3_skipWhiteSpace_26 : decode cX3_skipWhiteSpace 26 = .ok (.aload_n 0, 1) := by decide +kernel
theorem dX3_skipWhiteSpace_27 : decode cX3_skipWhiteSpace 27 = .ok (.getfield 30, 3) := by decide +kernel
theorem dX3_skipWhiteSpace_30 : decode cX3_skipWhiteSpace 30 = .ok (.invokevirtual 33, 3) := by decide +kernel
theorem dX3_skipWhiteSpace_33 : decode cX3_skipWhiteSpace 33 = .ok (.invokestatic 59, 3) := by decide +kernel
theorem dX3_skipWhiteSpace_36 : decode cX3_skipWhiteSpace 36 = .ok (.ifCond .eq 16, 3) := by decide +kernel
theorem dX3_skipWhiteSpace_39 : decode cX3_skipWhiteSpace 39 = .ok (.aload_n 0, 1) := by decide +kernel
theorem dX3_skipWhiteSpace_40 : decode cX3_skipWhiteSpace 40 = .ok (.dup, 1) := by decide +kernel
theorem dX3_skipWhiteSpace_41 : decode cX3_skipWhiteSpace 41 = .ok (.getfield 30, 3) := by decide +kernel
theorem dX3_skipWhiteSpace_44 : decode cX3_skipWhiteSpace 44 = .ok (.iconst 1, 1) := by decide +kernel
theorem dX3_skipWhiteSpace_45 : decode cX3_skipWhiteSpace 45 = .ok (.iadd, 1) := by decide +kernel
theorem dX3_skipWhiteSpace_46 : decode cX3_skipWhiteSpace 46 = .ok (.putfield 30, 3) := by decide +kernel
theorem dX3_skipWhiteSpace_49 : decode cX3_skipWhiteSpace 49 = .ok (.goto (-41), 3) := by decide +kernel
theorem dX3_skipWhiteSpace_52 : decode cX3_skipWhiteSpace 52 = .ok (.aload_n 0, 1) := by decide +kernel
theorem dX3_skipWhiteSpace_53 : decode cX3_skipWhiteSpace 53 = .ok (.aload_n 0, 1) := by decide +kernel
theorem dX3_skipWhiteSpace_54 : decode cX3_skipWhiteSpace 54 = .ok (.getfield 30, 3) := by decide +kernel
theorem dX3_skipWhiteSpace_57 : decode cX3_skipWhiteSpace 57 = .ok (.putfield 20, 3) := by decide +kernel
theorem dX3_skipWhiteSpace_60 : decode cX3_skipWhiteSpace 60 = .ok (.return_, 1) := by decide +kernel
theorem dX3_readNumeral_0 : decode cX3_readNumeral 0 = .ok (.aload_n 0, 1) := by decide +kernel
theorem dX3_readNumeral_1 : decode cX3_readNumeral 1 = .ok (.iconst 0, 1) := by decide +kernel
theorem dX3_readNumeral_2 : decode cX3_readNumeral 2 = .ok (.putfield 62, 3) := by decide +kernel
theorem dX3_readNumeral_5 : decode cX3_readNumeral 5 = .ok (.aload_n 0, 1) := by decide +kernel
theorem dX3_readNumeral_6 : decode cX3_readNumeral 6 = .ok (.getfield 20, 3) := by decide +kernel
theorem dX3_readNumeral_9 : decode cX3_readNumeral 9 = .ok (.aload_n 0, 1) := by decide +kernel
theorem dX3_readNumeral_10 : decode cX3_readNumeral 10 = .ok (.getfield 14, 3) := by decide +kernel
theorem dX3_readNumeral_13 : decode cX3_readNumeral 13 = .ok (.getfield 37, 3) := by decide +kernel
theorem dX3_readNumeral_16 : decode cX3_readNumeral 16 = .ok (.if_icmp .ge 72, 3) := by decide +kernel
theorem dX3_readNumeral_19 : decode cX3_readNumeral 19 = .ok (.aload_n 0, 1) := by decide +kernel
theorem dX3_readNumeral_20 : decode cX3_readNumeral 20 = .ok (.getfield 14, 3) := by decide +kernel
theorem dX3_readNumeral_23 : decode cX3_readNumeral 23 = .ok (.aload_n 0, 1) := by decide +kernel
theorem dX3_readNumeral_24 : decode cX3_readNumeral 24 = .ok (.getfield 20, 3) := by decide +kernel
theorem dX3_readNumeral_27 : decode cX3_readNumeral 27 = .ok (.invokevirtual 33, 3) := by decide +kernel
theorem dX3_readNumeral_30 : decode cX3_readNumeral 30 = .ok (.invokestatic 43, 3) := by decide +kernel
theorem dX3_readNumeral_33 : decode cX3_readNumeral 33 = .ok (.ifCond .eq 55, 3) := by decide +kernel
theorem dX3_readNumeral_36 : decode cX3_readNumeral 36 = .ok (.aload_n 0, 1) := by decide +kernel
theorem dX3_readNumeral_37 : decode cX3_readNumeral 37 = .ok (.getfield 20, 3) := by decide +kernel
theorem dX3_readNumeral_40 : decode cX3_readNumeral 40 = .ok (.aload_n 0, 1) := by decide +kernel
theorem dX3_readNumeral_41 : decode cX3_readNumeral 41 = .ok (.getfield 30, 3) := by decide +kernel
theorem dX3_readNumeral_44 : decode cX3_readNumeral 44 = .ok (.isub, 1) := by decide +kernel
theorem dX3_readNumeral_45 : decode cX3_readNumeral 45 = .ok (.iconst 2, 1) := by decide +kernel
theorem dX3_readNumeral_46 : decode cX3_readNumeral 46 = .ok (.if_icmp .ge 29, 3) := by decide +kernel
theorem dX3_readNumeral_49 : decode cX3_readNumeral 49 = .ok (.aload_n 0, 1) := by decide +kernel
theorem dX3_readNumeral_50 : decode cX3_readNumeral 50 = .ok (.aload_n 0, 1) := by decide +kernel
theorem dX3_readNumeral_51 : decode cX3_readNumeral 51 = .ok (.getfield 62, 3) := by decide +kernel
theorem dX3_readNumeral_54 : decode cX3_readNumeral 54 = .ok (.bipush 10, 2) := by decide +kernel
theorem dX3_readNumeral_56 : decode cX3_readNumeral 56 = .ok (.imul, 1) := by decide +kernel
theorem dX3_readNumeral_57 : decode cX3_readNumeral 57 = .ok (.aload_n 0, 1) := by decide +kernel
theorem dX3_readNumeral_58 : decode cX3_readNumeral 58 = .ok (.getfield 14, 3) := by decide +kernel
theorem dX3_readNumeral_61 : decode cX3_readNumeral 61 = .ok (.aload_n 0, 1) := by decide +kernel
theorem dX3_readNumeral_62 : decode cX3_readNumeral 62 = .ok (.getfield 20, 3) := by decide +kernel
theorem dX3_readNumeral_65 : decode cX3_readNumeral 65 = .ok (.invokevirtual 33, 3) := by decide +kernel
theorem dX3_readNumeral_68 : decode cX3_readNumeral 68 = .ok (.iadd, 1) := by decide +kernel
theorem dX3_readNumeral_69 : decode cX3_readNumeral 69 = .ok (.bipush 48, 2) := by decide +kernel
theorem dX3_readNumeral_71 : decode cX3_readNumeral 71 = .ok (.isub, 1) := by decide +kernel
theorem dX3_readNumeral_72 : decode cX3_readNumeral 72 = .ok (.putfield 62, 3) := by decide +kernel
theorem dX3_readNumeral_75 : decode cX3_readNumeral 75 = .ok (.aload_n 0, 1) := by decide +kernel
theorem dX3_readNumeral_76 : decode cX3_readNumeral 76 = .ok (.dup, 1) := by decide +kernel
theorem dX3_readNumeral_77 : decode cX3_readNumeral 77 = .ok (.getfield 20, 3) := by decide +kernel
theorem dX3_readNumeral_80 : decode cX3_readNumeral 80 = .ok (.iconst 1, 1) := by decide +kernel
theorem dX3_readNumeral_81 : decode cX3_readNumeral 81 = .ok (.iadd, 1) := by decide +kernel
theorem dX3_readNumeral_82 : decode cX3_readNumeral 82 = .ok (.putfield 20, 3) := by decide +kernel
theorem dX3_readNumeral_85 : decode cX3_readNumeral 85 = .ok (.goto (-80), 3) := by decide +kernel
theorem dX3_readNumeral_88 : decode cX3_readNumeral 88 = .ok (.aload_n 0, 1) := by decide +kernel
theorem dX3_readNumeral_89 : decode cX3_readNumeral 89 = .ok (.aload_n 0, 1) := by decide +kernel
theorem dX3_readNumeral_90 : decode cX3_readNumeral 90 = .ok (.getfield 20, 3) := by decide +kernel
theorem dX3_readNumeral_93 : decode cX3_readNumeral 93 = .ok (.aload_n 0, 1) := by decide +kernel
theorem dX3_readNumeral_94 : decode cX3_readNumeral 94 = .ok (.getfield 30, 3) := by decide +kernel
theorem dX3_readNumeral_97 : decode cX3_readNumeral 97 = .ok (.isub, 1) := by decide +kernel
theorem dX3_readNumeral_98 : decode cX3_readNumeral 98 = .ok (.iconst 2, 1) := by decide +kernel
theorem dX3_readNumeral_99 : decode cX3_readNumeral 99 = .ok (.if_icmp .le 8, 3) := by decide +kernel
theorem dX3_readNumeral_102 : decode cX3_readNumeral 102 = .ok (.bipush 10, 2) := by decide +kernel
theorem dX3_readNumeral_104 : decode cX3_readNumeral 104 = .ok (.goto 5, 3) := by decide +kernel
theorem dX3_readNumeral_107 : decode cX3_readNumeral 107 = .ok (.bipush 7, 2) := by decide +kernel
theorem dX3_readNumeral_109 : decode cX3_readNumeral 109 = .ok (.putfield 40, 3) := by decide +kernel
theorem dX3_readNumeral_112 : decode cX3_readNumeral 112 = .ok (.return_, 1) := by decide +kernel
theorem dX3_readWord_0 : decode cX3_readWord 0 = .ok (.aload_n 0, 1) := by decide +kernel
theorem dX3_readWord_1 : decode cX3_readWord 1 = .ok (.getfield 20, 3) := by decide +kernel
theorem dX3_readWord_4 : decode cX3_readWord 4 = .ok (.aload_n 0, 1) := by decide +kernel
theorem dX3_readWord_5 : decode cX3_readWord 5 = .ok (.getfield 14, 3) := by decide +kernel
theorem dX3_readWord_8 : decode cX3_readWord 8 = .ok (.getfield 37, 3) := by decide +kernel
theorem dX3_readWord_11 : decode cX3_readWord 11 = .ok (.if_icmp .ge 33, 3) := by decide +kernel
theorem dX3_readWord_14 : decode cX3_readWord 14 = .ok (.aload_n 0, 1) := by decide +kernel
theorem dX3_readWord_15 : decode cX3_readWord 15 = .ok (.getfield 14, 3) := by decide +kernel
theorem dX3_readWord_18 : decode cX3_readWord 18 = .ok (.aload_n 0, 1) := by decide +kernel
theorem dX3_readWord_19 : decode cX3_readWord 19 = .ok (.getfield 20, 3) := by decide +kernel
theorem dX3_readWord_22 : decode cX3_readWord 22 = .ok (.invokevirtual 33, 3) := by decide +kernel
theorem dX3_readWord_25 : decode cX3_readWord 25 = .ok (.invokestatic 50, 3) := by decide +kernel
theorem dX3_readWord_28 : decode cX3_readWord 28 = .ok (.ifCond .eq 16, 3) := by decide +kernel
theorem dX3_readWord_31 : decode cX3_readWord 31 = .ok (.aload_n 0, 1) := by decide +kernel
theorem dX3_readWord_32 : decode cX3_readWord 32 = .ok (.dup, 1) := by decide +kernel
theorem dX3_readWord_33 : decode cX3_readWord 33 = .ok (.getfield 20, 3) := by decide +kernel
theorem dX3_readWord_36 : decode cX3_readWord 36 = .ok (.iconst 1, 1) := by decide +kernel
theorem dX3_readWord_37 : decode cX3_readWord 37 = .ok (.iadd, 1) := by decide +kernel
theorem dX3_readWord_38 : decode cX3_readWord 38 = .ok (.putfield 20, 3) := by decide +kernel
theorem dX3_readWord_41 : decode cX3_readWord 41 = .ok (.goto (-41), 3) := by decide +kernel
theorem dX3_readWord_44 : decode cX3_readWord 44 = .ok (.aload_n 0, 1) := by decide +kernel
theorem dX3_readWord_45 : decode cX3_readWord 45 = .ok (.bipush 10, 2) := by decide +kernel
theorem dX3_readWord_47 : decode cX3_readWord 47 = .ok (.putfield 40, 3) := by decide +kernel
theorem dX3_readWord_50 : decode cX3_readWord 50 = .ok (.iconst 0, 1) := by decide +kernel
theorem dX3_readWord_51 : decode cX3_readWord 51 = .ok (.istore_n 1, 1) := by decide +kernel
theorem dX3_readWord_52 : decode cX3_readWord 52 = .ok (.iload_n 1, 1) := by decide +kernel
theorem dX3_readWord_53 : decode cX3_readWord 53 = .ok (.bipush 6, 2) := by decide +kernel
theorem dX3_readWord_55 : decode cX3_readWord 55 = .ok (.if_icmp .gt 36, 3) := by decide +kernel
theorem dX3_readWord_58 : decode cX3_readWord 58 = .ok (.aload_n 0, 1) := by decide +kernel
theorem dX3_readWord_59 : decode cX3_readWord 59 = .ok (.getfield 14, 3) := by decide +kernel
theorem dX3_readWord_62 : decode cX3_readWord 62 = .ok (.iload_n 1, 1) := by decide +kernel
theorem dX3_readWord_63 : decode cX3_readWord 63 = .ok (.invokestatic 65, 3) := by decide +kernel
theorem dX3_readWord_66 : decode cX3_readWord 66 = .ok (.aload_n 0, 1) := by decide +kernel
theorem dX3_readWord_67 : decode cX3_readWord 67 = .ok (.getfield 30, 3) := by decide +kernel
theorem dX3_readWord_70 : decode cX3_readWord 70 = .ok (.aload_n 0, 1) := by decide +kernel
theorem dX3_readWord_71 : decode cX3_readWord 71 = .ok (.getfield 20, 3) := by decide +kernel
theorem dX3_readWord_74 : decode cX3_readWord 74 = .ok (.invokevirtual 69, 3) := by decide +kernel
theorem dX3_readWord_77 : decode cX3_readWord 77 = .ok (.ifCond .eq 8, 3) := by decide +kernel
theorem dX3_readWord_80 : decode cX3_readWord 80 = .ok (.aload_n 0, 1) := by decide +kernel
theorem dX3_readWord_81 : decode cX3_readWord 81 = .ok (.iload_n 1, 1) := by decide +kernel
theorem dX3_readWord_82 : decode cX3_readWord 82 = .ok (.putfield 40, 3) := by decide +kernel
theorem dX3_readWord_85 : decode cX3_readWord 85 = .ok (.iinc 1 1, 3) := by decide +kernel
theorem dX3_readWord_88 : decode cX3_readWord 88 = .ok (.goto (-36), 3) := by decide +kernel
theorem dX3_readWord_91 : decode cX3_readWord 91 = .ok (.return_, 1) := by decide +kernel
theorem dX3_readOther_0 : decode cX3_readOther 0 = .ok (.aload_n 0, 1) := by decide +kernel
theorem dX3_readOther_1 : decode cX3_readOther 1 = .ok (.iload_n 1, 1) := by decide +kernel
theorem dX3_readOther_2 : decode cX3_readOther 2 = .ok (.bipush 59, 2) := by decide +kernel
theorem dX3_readOther_4 : decode cX3_readOther 4 = .ok (.if_icmp .ne 8, 3) := by decide +kernel
theorem dX3_readOther_7 : decode cX3_readOther 7 = .ok (.bipush 8, 2) := by decide +kernel
theorem dX3_readOther_9 : decode cX3_readOther 9 = .ok (.goto 5, 3) := by decide +kernel
theorem dX3_readOther_12 : decode cX3_readOther 12 = .ok (.bipush 10, 2) := by decide +kernel
theorem dX3_readOther_14 : decode cX3_readOther 14 = .ok (.putfield 40, 3) := by decide +kernel
theorem dX3_readOther_17 : decode cX3_readOther 17 = .ok (.aload_n 0, 1) := by decide +kernel
theorem dX3_readOther_18 : decode cX3_readOther 18 = .ok (.aload_n 0, 1) := by decide +kernel
theorem dX3_readOther_19 : decode cX3_readOther 19 = .ok (.getfield 30, 3) := by decide +kernel
theorem dX3_readOther_22 : decode cX3_readOther 22 = .ok (.iconst 1, 1) := by decide +kernel
theorem dX3_readOther_23 : decode cX3_readOther 23 = .ok (.iadd, 1) := by decide +kernel
theorem dX3_readOther_24 : decode cX3_readOther 24 = .ok (.putfield 20, 3) := by decide +kernel
theorem dX3_readOther_27 : decode cX3_readOther 27 = .ok (.return_, 1) := by decide +kernel
theorem dX3_isWhiteSpace_0 : decode cX3_isWhiteSpace 0 = .ok (.iload_n 0, 1) := by decide +kernel
theorem dX3_isWhiteSpace_1 : decode cX3_isWhiteSpace 1 = .ok (.bipush 32, 2) := by decide +kernel
theorem dX3_isWhiteSpace_3 : decode cX3_isWhiteSpace 3 = .ok (.if_icmp .eq 9, 3) := by decide +kernel
theorem dX3_isWhiteSpace_6 : decode cX3_isWhiteSpace 6 = .ok (.iload_n 0, 1) := by decide +kernel
theorem dX3_isWhiteSpace_7 : decode cX3_isWhiteSpace 7 = .ok (.bipush 10, 2) := by decide +kernel
theorem dX3_isWhiteSpace_9 : decode cX3_isWhiteSpace 9 = .ok (.if_icmp .ne 7, 3) := by decide +kernel
theorem dX3_isWhiteSpace_12 : decode cX3_isWhiteSpace 12 = .ok (.iconst 1, 1) := by decide +kernel
theorem dX3_isWhiteSpace_13 : decode cX3_isWhiteSpace 13 = .ok (.goto 4, 3) := by decide +kernel
theorem dX3_isWhiteSpace_16 : decode cX3_isWhiteSpace 16 = .ok (.iconst 0, 1) := by decide +kernel
theorem dX3_isWhiteSpace_17 : decode cX3_isWhiteSpace 17 = .ok (.ireturn, 1) := by decide +kernel
theorem dX3_isDigit_0 : decode cX3_isDigit 0 = .ok (.iload_n 0, 1) := by decide +kernel
theorem dX3_isDigit_1 : decode cX3_isDigit 1 = .ok (.bipush 48, 2) := by decide +kernel
theorem dX3_isDigit_3 : decode cX3_isDigit 3 = .ok (.if_icmp .lt 13, 3) := by decide +kernel
theorem dX3_isDigit_6 : decode cX3_isDigit 6 = .ok (.iload_n 0, 1) := by decide +kernel
theorem dX3_isDigit_7 : decode cX3_isDigit 7 = .ok (.bipush 57, 2) := by decide +kernel
theorem dX3_isDigit_9 : decode cX3_isDigit 9 = .ok (.if_icmp .gt 7, 3) := by decide +kernel
theorem dX3_isDigit_12 : decode cX3_isDigit 12 = .ok (.iconst 1, 1) := by decide +kernel
theorem dX3_isDigit_13 : decode cX3_isDigit 13 = .ok (.goto 4, 3) := by decide +kernel
theorem dX3_isDigit_16 : decode cX3_isDigit 16 = .ok (.iconst 0, 1) := by decide +kernel
theorem dX3_isDigit_17 : decode cX3_isDigit 17 = .ok (.ireturn, 1) := by decide +kernel
theorem dX3_isSmallLetter_0 : decode cX3_isSmallLetter 0 = .ok (.iload_n 0, 1) := by decide +kernel
theorem dX3_isSmallLetter_1 : decode cX3_isSmallLetter 1 = .ok (.bipush 97, 2) := by decide +kernel
theorem dX3_isSmallLetter_3 : decode cX3_isSmallLetter 3 = .ok (.if_icmp .lt 13, 3) := by decide +kernel
theorem dX3_isSmallLetter_6 : decode cX3_isSmallLetter 6 = .ok (.iload_n 0, 1) := by decide +kernel
theorem dX3_isSmallLetter_7 : decode cX3_isSmallLetter 7 = .ok (.bipush 122, 2) := by decide +kernel
theorem dX3_isSmallLetter_9 : decode cX3_isSmallLetter 9 = .ok (.if_icmp .gt 7, 3) := by decide +kernel
theorem dX3_isSmallLetter_12 : decode cX3_isSmallLetter 12 = .ok (.iconst 1, 1) := by decide +kernel
theorem dX3_isSmallLetter_13 : decode cX3_isSmallLetter 13 = .ok (.goto 4, 3) := by decide +kernel
theorem dX3_isSmallLetter_16 : decode cX3_isSmallLetter 16 = .ok (.iconst 0, 1) := by decide +kernel
theorem dX3_isSmallLetter_17 : decode cX3_isSmallLetter 17 = .ok (.ireturn, 1) := by decide +kernel
theorem dX3_keyword_0 : decode cX3_keyword 0 = .ok (.iload_n 0, 1) := by decide +kernel
theorem dX3_keyword_1 : decode cX3_keyword 1 = .ok (.tableswitch 57 0 5 #[39, 42, 45, 48, 51, 54], 39) := by decide +kernel
theorem dX3_keyword_40 : decode cX3_keyword 40 = .ok (.ldc 73, 2) := by decide +kernel
theorem dX3_keyword_42 : decode cX3_keyword 42 = .ok (.areturn, 1) := by decide +kernel
theorem dX3_keyword_43 : decode cX3_keyword 43 = .ok (.ldc 75, 2) := by decide +kernel
theorem dX3_keyword_45 : decode cX3_keyword 45 = .ok (.areturn, 1) := by decide +kernel
theorem dX3_keyword_46 : decode cX3_keyword 46 = .ok (.ldc 77, 2) := by decide +kernel
theorem dX3_keyword_48 : decode cX3_keyword 48 = .ok (.areturn, 1) := by decide +kernel
theorem dX3_keyword_49 : decode cX3_keyword 49 = .ok (.ldc 79, 2) := by decide +kernel
theorem dX3_keyword_51 : decode cX3_keyword 51 = .ok (.areturn, 1) := by decide +kernel
theorem dX3_keyword_52 : decode cX3_keyword 52 = .ok (.ldc 81, 2) := by decide +kernel
theorem dX3_keyword_54 : decode cX3_keyword 54 = .ok (.areturn, 1) := by decide +kernel
theorem dX3_keyword_55 : decode cX3_keyword 55 = .ok (.ldc 83, 2) := by decide +kernel
theorem dX3_keyword_57 : decode cX3_keyword 57 = .ok (.areturn, 1) := by decide +kernel
theorem dX3_keyword_58 : decode cX3_keyword 58 = .ok (.ldc 85, 2) := by decide +kernel
theorem dX3_keyword_60 : decode cX3_keyword 60 = .ok (.areturn, 1) := by decide +kernel
theorem dX4_init_0 : decode cX4_init 0 = .ok (.aload_n 0, 1) := by decide +kernel
theorem dX4_init_1 : decode cX4_init 1 = .ok (.invokespecial 3, 3) := by decide +kernel
theorem dX4_init_4 : decode cX4_init 4 = .ok (.aload_n 0, 1) := by decide +kernel
theorem dX4_init_5 : decode cX4_init 5 = .ok (.new 9, 3) := by decide +kernel
theorem dX4_init_8 : decode cX4_init 8 = .ok (.dup, 1) := by decide +kernel
theorem dX4_init_9 : decode cX4_init 9 = .ok (.invokespecial 11, 3) := by decide +kernel
theorem dX4_init_12 : decode cX4_init 12 = .ok (.putfield 12, 3) := by decide +kernel
theorem dX4_init_15 : decode cX4_init 15 = .ok (.aload_n 0, 1) := by decide +kernel
theorem dX4_init_16 : decode cX4_init 16 = .ok (.new 18, 3) := by decide +kernel
theorem dX4_init_19 : decode cX4_init 19 = .ok (.dup, 1) := by decide +kernel
theorem dX4_init_20 : decode cX4_init 20 = .ok (.invokespecial 20, 3) := by decide +kernel
theorem dX4_init_23 : decode cX4_init 23 = .ok (.putfield 21, 3) := by decide +kernel
theorem dX4_init_26 : decode cX4_init 26 = .ok (.return_, 1) := by decide +kernel
theorem dX4_parse_0 : decode cX4_parse 0 = .ok (.aload_n 0, 1) := by decide +kernel
theorem dX4_parse_1 : decode cX4_parse 1 = .ok (.getfield 21, 3) := by decide +kernel
theorem dX4_parse_4 : decode cX4_parse 4 = .ok (.invokevirtual 25, 3) := by decide +kernel
theorem dX4_parse_7 : decode cX4_parse 7 = .ok (.aload_n 0, 1) := by decide +kernel
theorem dX4_parse_8 : decode cX4_parse 8 = .ok (.getfield 12, 3) := by decide +kernel
theorem dX4_parse_11 : decode cX4_parse 11 = .ok (.invokevirtual 28, 3) := by decide +kernel
theorem dX4_parse_14 : decode cX4_parse 14 = .ok (.aload_n 0, 1) := by decide +kernel
theorem dX4_parse_15 : decode cX4_parse 15 = .ok (.iconst 0, 1) := by decide +kernel
theorem dX4_parse_16 : decode cX4_parse 16 = .ok (.iconst 0, 1) := by decide +kernel
theorem dX4_parse_17 : decode cX4_parse 17 = .ok (.invokevirtual 31, 3) := by decide +kernel
theorem dX4_parse_20 : decode cX4_parse 20 = .ok (.ifCond .eq 67, 3) := by decide +kernel
theorem dX4_parse_23 : decode cX4_parse 23 = .ok (.aload_n 0, 1) := by decide +kernel
theorem dX4_parse_24 : decode cX4_parse 24 = .ok (.iconst 1, 1) := by decide +kernel
theorem dX4_parse_25 : decode cX4_parse 25 = .ok (.iconst 1, 1) := by decide +kernel
theorem dX4_parse_26 : decode cX4_parse 26 = .ok (.invokevirtual 31, 3) := by decide +kernel
theorem dX4_parse_29 : decode cX4_parse 29 = .ok (.ifCond .eq 58, 3) := by decide +kernel
theorem dX4_parse_32 : decode cX4_parse 32 = .ok (.aload_n 0, 1) := by decide +kernel
theorem dX4_parse_33 : decode cX4_parse 33 = .ok (.iconst 2, 1) := by decide +kernel
theorem dX4_parse_34 : decode cX4_parse 34 = .ok (.iconst 2, 1) := by decide +kernel
theorem dX4_parse_35 : decode cX4_parse 35 = .ok (.invokevirtual 31, 3) := by decide +kernel
theorem dX4_parse_38 : decode cX4_parse 38 = .ok (.ifCond .eq 49, 3) := by decide +kernel
theorem dX4_parse_41 : decode cX4_parse 41 = .ok (.aload_n 0, 1) := by decide +kernel
theorem dX4_parse_42 : decode cX4_parse 42 = .ok (.bipush 8, 2) := by decide +kernel
theorem dX4_parse_44 : decode cX4_parse 44 = .ok (.invokevirtual 35, 3) := by decide +kernel
theorem dX4_parse_47 : decode cX4_parse 47 = .ok (.ifCond .eq 40, 3) := by decide +kernel
theorem dX4_parse_50 : decode cX4_parse 50 = .ok (.aload_n 0, 1) := by decide +kernel
theorem dX4_parse_51 : decode cX4_parse 51 = .ok (.invokevirtual 39, 3) := by decide +kernel
theorem dX4_parse_54 : decode cX4_parse 54 = .ok (.ifCond .eq 33, 3) := by decide +kernel
theorem dX4_parse_57 : decode cX4_parse 57 = .ok (.aload_n 0, 1) := by decide +kernel
theorem dX4_parse_58 : decode cX4_parse 58 = .ok (.invokevirtual 43, 3) := by decide +kernel
theorem dX4_parse_61 : decode cX4_parse 61 = .ok (.ifCond .eq 26, 3) := by decide +kernel
theorem dX4_parse_64 : decode cX4_parse 64 = .ok (.aload_n 0, 1) := by decide +kernel
theorem dX4_parse_65 : decode cX4_parse 65 = .ok (.invokevirtual 46, 3) := by decide +kernel
theorem dX4_parse_68 : decode cX4_parse 68 = .ok (.ifCond .eq 19, 3) := by decide +kernel
theorem dX4_parse_71 : decode cX4_parse 71 = .ok (.aload_n 0, 1) := by decide +kernel
theorem dX4_parse_72 : decode cX4_parse 72 = .ok (.getfield 12, 3) := by decide +kernel
theorem dX4_parse_75 : decode cX4_parse 75 = .ok (.getfield 49, 3) := by decide +kernel
theorem dX4_parse_78 : decode cX4_parse 78 = .ok (.bipush 9, 2) := by decide +kernel
theorem dX4_parse_80 : decode cX4_parse 80 = .ok (.if_icmp .ne 7, 3) := by decide +kernel
theorem dX4_parse_83 : decode cX4_parse 83 = .ok (.iconst 1, 1) := by decide +kernel
theorem dX4_parse_84 : decode cX4_parse 84 = .ok (.goto 4, 3) := by decide +kernel
theorem dX4_parse_87 : decode cX4_parse 87 = .ok (.iconst 0, 1) := by decide +kernel
theorem dX4_parse_88 : decode cX4_parse 88 = .ok (.istore_n 1, 1) := by decide +kernel
theorem dX4_parse_89 : decode cX4_parse 89 = .ok (.iload_n 1, 1) := by decide +kernel
theorem dX4_parse_90 : decode cX4_parse 90 = .ok (.ifCond .eq 8, 3) := by decide +kernel
theorem dX4_parse_93 : decode cX4_parse 93 = .ok (.bipush (-2), 2) := by decide +kernel
theorem dX4_parse_95 : decode cX4_parse 95 = .ok (.goto 10, 3) := by decide +kernel
theorem dX4_parse_98 : decode cX4_parse 98 = .ok (.aload_n 0, 1) := by decide +kernel
theorem dX4_parse_99 : decode cX4_parse 99 = .ok (.getfield 12, 3) := by decide +kernel
theorem dX4_parse_102 : decode cX4_parse 102 = .ok (.getfield 53, 3) := by decide +kernel
theorem dX4_parse_105 : decode cX4_parse 105 = .ok (.ireturn, 1) := by decide +kernel
theorem dX4_parseRule_0 : decode cX4_parseRule 0 = .ok (.aload_n 0, 1) := by decide +kernel
theorem dX4_parseRule_1 : decode cX4_parseRule 1 = .ok (.iload_n 1, 1) := by decide +kernel
theorem dX4_parseRule_2 : decode cX4_parseRule 2 = .ok (.invokevirtual 35, 3) := by decide +kernel
theorem dX4_parseRule_5 : decode cX4_parseRule 5 = .ok (.ifCond .eq 15, 3) := by decide +kernel
theorem dX4_parseRule_8 : decode cX4_parseRule 8 = .ok (.aload_n 0, 1) := by decide +kernel
theorem dX4_parseRule_9 : decode cX4_parseRule 9 = .ok (.iconst 1, 1) := by decide +kernel
theorem dX4_parseRule_10 : decode cX4_parseRule 10 = .ok (.iload_n 2, 1) := by decide +kernel
theorem dX4_parseRule_11 : decode cX4_parseRule 11 = .ok (.invokestatic 56, 3) := by decide +kernel
theorem dX4_parseRule_14 : decode cX4_parseRule 14 = .ok (.invokevirtual 60, 3) := by decide +kernel
theorem dX4_parseRule_17 : decode cX4_parseRule 17 = .ok (.ifCond .ne 5, 3) := by decide +kernel
theorem dX4_parseRule_20 : decode cX4_parseRule 20 = .ok (.iconst 0, 1) := by decide +kernel
theorem dX4_parseRule_21 : decode cX4_parseRule 21 = .ok (.ireturn, 1) := by decide +kernel
theorem dX4_parseRule_22 : decode cX4_parseRule 22 = .ok (.aload_n 0, 1) := by decide +kernel
theorem dX4_parseRule_23 : decode cX4_parseRule 23 = .ok (.getfield 21, 3) := by decide +kernel
theorem dX4_parseRule_26 : decode cX4_parseRule 26 = .ok (.getfield 63, 3) := by decide +kernel
theorem dX4_parseRule_29 : decode cX4_parseRule 29 = .ok (.iload_n 2, 1) := by decide +kernel
theorem dX4_parseRule_30 : decode cX4_parseRule 30 = .ok (.aload_n 0, 1) := by decide +kernel
theorem dX4_parseRule_31 : decode cX4_parseRule 31 = .ok (.getfield 67, 3) := by decide +kernel
theorem dX4_parseRule_34 : decode cX4_parseRule 34 = .ok (.invokestatic 70, 3) := by decide +kernel
theorem dX4_parseRule_37 : decode cX4_parseRule 37 = .ok (.iconst 1, 1) := by decide +kernel
theorem dX4_parseRule_38 : decode cX4_parseRule 38 = .ok (.ireturn, 1) := by decide +kernel
theorem dX4_parseOffices_0 : decode cX4_parseOffices 0 = .ok (.iconst 0, 1) := by decide +kernel
theorem dX4_parseOffices_1 : decode cX4_parseOffices 1 = .ok (.istore_n 1, 1) := by decide +kernel
theorem dX4_parseOffices_2 : decode cX4_parseOffices 2 = .ok (.iload_n 1, 1) := by decide +kernel
theorem dX4_parseOffices_3 : decode cX4_parseOffices 3 = .ok (.bipush 10, 2) := by decide +kernel
theorem dX4_parseOffices_5 : decode cX4_parseOffices 5 = .ok (.if_icmp .ge 111, 3) := by decide +kernel
theorem dX4_parseOffices_8 : decode cX4_parseOffices 8 = .ok (.aload_n 0, 1) := by decide +kernel
theorem dX4_parseOffices_9 : decode cX4_parseOffices 9 = .ok (.iconst 3, 1) := by decide +kernel
theorem dX4_parseOffices_10 : decode cX4_parseOffices 10 = .ok (.invokevirtual 35, 3) := by decide +kernel
theorem dX4_parseOffices_13 : decode cX4_parseOffices 13 = .ok (.ifCond .eq 103, 3) := by decide +kernel
theorem dX4_parseOffices_16 : decode cX4_parseOffices 16 = .ok (.aload_n 0, 1) := by decide +kernel
theorem dX4_parseOffices_17 : decode cX4_parseOffices 17 = .ok (.iconst 1, 1) := by decide +kernel
theorem dX4_parseOffices_18 : decode cX4_parseOffices 18 = .ok (.bipush 9, 2) := by decide +kernel
theorem dX4_parseOffices_20 : decode cX4_parseOffices 20 = .ok (.invokevirtual 60, 3) := by decide +kernel
theorem dX4_parseOffices_23 : decode cX4_parseOffices 23 = .ok (.ifCond .ne 5, 3) := by decide +kernel
theorem dX4_parseOffices_26 : decode cX4_parseOffices 26 = .ok (.iconst 0, 1) := by decide +kernel
theorem dX4_parseOffices_27 : decode cX4_parseOffices 27 = .ok (.ireturn, 1) := by decide +kernel
theorem dX4_parseOffices_28 : decode cX4_parseOffices 28 = .ok (.aload_n 0, 1) := by decide +kernel
theorem dX4_parseOffices_29 : decode cX4_parseOffices 29 = .ok (.getfield 67, 3) := by decide +kernel
theorem dX4_parseOffices_32 : decode cX4_parseOffices 32 = .ok (.istore_n 2, 1) := by decide +kernel
theorem dX4_parseOffices_33 : decode cX4_parseOffices 33 = .ok (.aload_n 0, 1) := by decide +kernel
theorem dX4_parseOffices_34 : decode cX4_parseOffices 34 = .ok (.getfield 21, 3) := by decide +kernel
theorem dX4_parseOffices_37 : decode cX4_parseOffices 37 = .ok (.getfield 74, 3) := by decide +kernel
theorem dX4_parseOffices_40 : decode cX4_parseOffices 40 = .ok (.aload_n 0, 1) := by decide +kernel
theorem dX4_parseOffices_41 : decode cX4_parseOffices 41 = .ok (.getfield 12, 3) := by decide +kernel
theorem dX4_parseOffices_44 : decode cX4_parseOffices 44 = .ok (.getfield 78, 3) := by decide +kernel
theorem dX4_parseOffices_47 : decode cX4_parseOffices 47 = .ok (.invokevirtual 81, 3) := by decide +kernel
theorem dX4_parseOffices_50 : decode cX4_parseOffices 50 = .ok (.ifCond .ne 13, 3) := by decide +kernel
theorem dX4_parseOffices_53 : decode cX4_parseOffices 53 = .ok (.aload_n 0, 1) := by decide +kernel
theorem dX4_parseOffices_54 : decode cX4_parseOffices 54 = .ok (.iconst 1, 1) := by decide +kernel
theorem dX4_parseOffices_55 : decode cX4_parseOffices 55 = .ok (.bipush 99, 2) := by decide +kernel
theorem dX4_parseOffices_57 : decode cX4_parseOffices 57 = .ok (.invokevirtual 60, 3) := by decide +kernel
theorem dX4_parseOffices_60 : decode cX4_parseOffices 60 = .ok (.ifCond .ne 5, 3) := by decide +kernel
theorem dX4_parseOffices_63 : decode cX4_parseOffices 63 = .ok (.iconst 0, 1) := by decide +kernel
theorem dX4_parseOffices_64 : decode cX4_parseOffices 64 = .ok (.ireturn, 1) := by decide +kernel
theorem dX4_parseOffices_65 : decode cX4_parseOffices 65 = .ok (.aload_n 0, 1) := by decide +kernel
theorem dX4_parseOffices_66 : decode cX4_parseOffices 66 = .ok (.getfield 67, 3) := by decide +kernel
theorem dX4_parseOffices_69 : decode cX4_parseOffices 69 = .ok (.istore_n 3, 1) := by decide +kernel
theorem dX4_parseOffices_70 : decode cX4_parseOffices 70 = .ok (.aload_n 0, 1) := by decide +kernel
theorem dX4_parseOffices_71 : decode cX4_parseOffices 71 = .ok (.iconst 4, 1) := by decide +kernel
theorem dX4_parseOffices_72 : decode cX4_parseOffices 72 = .ok (.invokevirtual 35, 3) := by decide +kernel
theorem dX4_parseOffices_75 : decode cX4_parseOffices 75 = .ok (.ifCond .eq 7, 3) := by decide +kernel
theorem dX4_parseOffices_78 : decode cX4_parseOffices 78 = .ok (.iconst 0, 1) := by decide +kernel
theorem dX4_parseOffices_79 : decode cX4_parseOffices 79 = .ok (.goto 4, 3) := by decide +kernel
theorem dX4_parseOffices_82 : decode cX4_parseOffices 82 = .ok (.iconst 1, 1) := by decide +kernel
theorem dX4_parseOffices_83 : decode cX4_parseOffices 83 = .ok (.istore 4, 2) := by decide +kernel
theorem dX4_parseOffices_85 : decode cX4_parseOffices 85 = .ok (.aload_n 0, 1) := by decide +kernel
theorem dX4_parseOffices_86 : decode cX4_parseOffices 86 = .ok (.bipush 8, 2) := by decide +kernel
theorem dX4_parseOffices_88 : decode cX4_parseOffices 88 = .ok (.invokevirtual 35, 3) := by decide +kernel
theorem dX4_parseOffices_91 : decode cX4_parseOffices 91 = .ok (.ifCond .ne 5, 3) := by decide +kernel
theorem dX4_parseOffices_94 : decode cX4_parseOffices 94 = .ok (.iconst 0, 1) := by decide +kernel
theorem dX4_parseOffices_95 : decode cX4_parseOffices 95 = .ok (.ireturn, 1) := by decide +kernel
theorem dX4_parseOffices_96 : decode cX4_parseOffices 96 = .ok (.aload_n 0, 1) := by decide +kernel
theorem dX4_parseOffices_97 : decode cX4_parseOffices 97 = .ok (.getfield 21, 3) := by decide +kernel
theorem dX4_parseOffices_100 : decode cX4_parseOffices 100 = .ok (.getfield 74, 3) := by decide +kernel
theorem dX4_parseOffices_103 : decode cX4_parseOffices 103 = .ok (.iload_n 2, 1) := by decide +kernel
theorem dX4_parseOffices_104 : decode cX4_parseOffices 104 = .ok (.iload_n 3, 1) := by decide +kernel
theorem dX4_parseOffices_105 : decode cX4_parseOffices 105 = .ok (.iload 4, 2) := by decide +kernel
theorem dX4_parseOffices_107 : decode cX4_parseOffices 107 = .ok (.invokevirtual 86, 3) := by decide +kernel
theorem dX4_parseOffices_110 : decode cX4_parseOffices 110 = .ok (.iinc 1 1, 3) := by decide +kernel
theorem dX4_parseOffices_113 : decode cX4_parseOffices 113 = .ok (.goto (-111), 3) := by decide +kernel
theorem dX4_parseOffices_116 : decode cX4_parseOffices 116 = .ok (.aload_n 0, 1) := by decide +kernel
theorem dX4_parseOffices_117 : decode cX4_parseOffices 117 = .ok (.getfield 21, 3) := by decide +kernel
theorem dX4_parseOffices_120 : decode cX4_parseOffices 120 = .ok (.getfield 74, 3) := by decide +kernel
theorem dX4_parseOffices_123 : decode cX4_parseOffices 123 = .ok (.getfield 90, 3) := by decide +kernel
theorem dX4_parseOffices_126 : decode cX4_parseOffices 126 = .ok (.iconst 2, 1) := by decide +kernel
theorem dX4_parseOffices_127 : decode cX4_parseOffices 127 = .ok (.if_icmp .lt 7, 3) := by decide +kernel
theorem dX4_parseOffices_130 : decode cX4_parseOffices 130 = .ok (.iconst 1, 1) := by decide +kernel
theorem dX4_parseOffices_131 : decode cX4_parseOffices 131 = .ok (.goto 4, 3) := by decide +kernel
theorem dX4_parseOffices_134 : decode cX4_parseOffices 134 = .ok (.iconst 0, 1) := by decide +kernel
theorem dX4_parseOffices_135 : decode cX4_parseOffices 135 = .ok (.ireturn, 1) := by decide +kernel
theorem dX4_parseLetters_0 : decode cX4_parseLetters 0 = .ok (.aload_n 0, 1) := by decide +kernel
theorem dX4_parseLetters_1 : decode cX4_parseLetters 1 = .ok (.getfield 21, 3) := by decide +kernel
theorem dX4_parseLetters_4 : decode cX4_parseLetters 4 = .ok (.getfield 74, 3) := by decide +kernel
theorem dX4_parseLetters_7 : decode cX4_parseLetters 7 = .ok (.getfield 90, 3) := by decide +kernel
theorem dX4_parseLetters_10 : decode cX4_parseLetters 10 = .ok (.iconst 1, 1) := by decide +kernel
theorem dX4_parseLetters_11 : decode cX4_parseLetters 11 = .ok (.isub, 1) := by decide +kernel
theorem dX4_parseLetters_12 : decode cX4_parseLetters 12 = .ok (.istore_n 1, 1) := by decide +kernel
theorem dX4_parseLetters_13 : decode cX4_parseLetters 13 = .ok (.iconst 0, 1) := by decide +kernel
theorem dX4_parseLetters_14 : decode cX4_parseLetters 14 = .ok (.istore_n 2, 1) := by decide +kernel
theorem dX4_parseLetters_15 : decode cX4_parseLetters 15 = .ok (.iload_n 2, 1) := by decide +kernel
theorem dX4_parseLetters_16 : decode cX4_parseLetters 16 = .ok (.bipush 60, 2) := by decide +kernel
theorem dX4_parseLetters_18 : decode cX4_parseLetters 18 = .ok (.if_icmp .gt 137, 3) := by decide +kernel
theorem dX4_parseLetters_21 : decode cX4_parseLetters 21 = .ok (.aload_n 0, 1) := by decide +kernel
theorem dX4_parseLetters_22 : decode cX4_parseLetters 22 = .ok (.iconst 5, 1) := by decide +kernel
theorem dX4_parseLetters_23 : decode cX4_parseLetters 23 = .ok (.invokevirtual 35, 3) := by decide +kernel
theorem dX4_parseLetters_26 : decode cX4_parseLetters 26 = .ok (.ifCond .eq 129, 3) := by decide +kernel
theorem dX4_parseLetters_29 : decode cX4_parseLetters 29 = .ok (.aload_n 0, 1) := by decide +kernel
theorem dX4_parseLetters_30 : decode cX4_parseLetters 30 = .ok (.getfield 21, 3) := by decide +kernel
theorem dX4_parseLetters_33 : decode cX4_parseLetters 33 = .ok (.getfield 74, 3) := by decide +kernel
theorem dX4_parseLetters_36 : decode cX4_parseLetters 36 = .ok (.getfield 93, 3) := by decide +kernel
theorem dX4_parseLetters_39 : decode cX4_parseLetters 39 = .ok (.aload_n 0, 1) := by decide +kernel
theorem dX4_parseLetters_40 : decode cX4_parseLetters 40 = .ok (.getfield 12, 3) := by decide +kernel
theorem dX4_parseLetters_43 : decode cX4_parseLetters 43 = .ok (.getfield 78, 3) := by decide +kernel
theorem dX4_parseLetters_46 : decode cX4_parseLetters 46 = .ok (.invokestatic 96, 3) := by decide +kernel
theorem dX4_parseLetters_49 : decode cX4_parseLetters 49 = .ok (.bipush 6, 2) := by decide +kernel
theorem dX4_parseLetters_51 : decode cX4_parseLetters 51 = .ok (.if_icmp .lt 5, 3) := by decide +kernel
theorem dX4_parseLetters_54 : decode cX4_parseLetters 54 = .ok (.iconst 0, 1) := by decide +kernel
theorem dX4_parseLetters_55 : decode cX4_parseLetters 55 = .ok (.ireturn, 1) := by decide +kernel
theorem dX4_parseLetters_56 : decode cX4_parseLetters 56 = .ok (.aload_n 0, 1) := by decide +kernel
theorem dX4_parseLetters_57 : decode cX4_parseLetters 57 = .ok (.iconst 0, 1) := by decide +kernel
theorem dX4_parseLetters_58 : decode cX4_parseLetters 58 = .ok (.iload_n 1, 1) := by decide +kernel
theorem dX4_parseLetters_59 : decode cX4_parseLetters 59 = .ok (.invokevirtual 60, 3) := by decide +kernel
theorem dX4_parseLetters_62 : decode cX4_parseLetters 62 = .ok (.ifCond .ne 5, 3) := by decide +kernel
theorem dX4_parseLetters_65 : decode cX4_parseLetters 65 = .ok (.iconst 0, 1) := by decide +kernel
theorem dX4_parseLetters_66 : decode cX4_parseLetters 66 = .ok (.ireturn, 1) := by decide +kernel
theorem dX4_parseLetters_67 : decode cX4_parseLetters 67 = .ok (.aload_n 0, 1) := by decide +kernel
theorem dX4_parseLetters_68 : decode cX4_parseLetters 68 = .ok (.getfield 67, 3) := by decide +kernel
theorem dX4_parseLetters_71 : decode cX4_parseLetters 71 = .ok (.istore_n 3, 1) := by decide +kernel
theorem dX4_parseLetters_72 : decode cX4_parseLetters 72 = .ok (.aload_n 0, 1) := by decide +kernel
theorem dX4_parseLetters_73 : decode cX4_parseLetters 73 = .ok (.getfield 12, 3) := by decide +kernel
theorem dX4_parseLetters_76 : decode cX4_parseLetters 76 = .ok (.getfield 78, 3) := by decide +kernel
theorem dX4_parseLetters_79 : decode cX4_parseLetters 79 = .ok (.iload_n 3, 1) := by decide +kernel
theorem dX4_parseLetters_80 : decode cX4_parseLetters 80 = .ok (.if_icmp .eq 12, 3) := by decide +kernel
theorem dX4_parseLetters_83 : decode cX4_parseLetters 83 = .ok (.aload_n 0, 1) := by decide +kernel
theorem dX4_parseLetters_84 : decode cX4_parseLetters 84 = .ok (.iconst 0, 1) := by decide +kernel
theorem dX4_parseLetters_85 : decode cX4_parseLetters 85 = .ok (.iload_n 1, 1) := by decide +kernel
theorem dX4_parseLetters_86 : decode cX4_parseLetters 86 = .ok (.invokevirtual 60, 3) := by decide +kernel
theorem dX4_parseLetters_89 : decode cX4_parseLetters 89 = .ok (.ifCond .ne 5, 3) := by decide +kernel
theorem dX4_parseLetters_92 : decode cX4_parseLetters 92 = .ok (.iconst 0, 1) := by decide +kernel
theorem dX4_parseLetters_93 : decode cX4_parseLetters 93 = .ok (.ireturn, 1) := by decide +kernel
theorem dX4_parseLetters_94 : decode cX4_parseLetters 94 = .ok (.aload_n 0, 1) := by decide +kernel
theorem dX4_parseLetters_95 : decode cX4_parseLetters 95 = .ok (.getfield 67, 3) := by decide +kernel
theorem dX4_parseLetters_98 : decode cX4_parseLetters 98 = .ok (.istore 4, 2) := by decide +kernel
theorem dX4_parseLetters_100 : decode cX4_parseLetters 100 = .ok (.aload_n 0, 1) := by decide +kernel
theorem dX4_parseLetters_101 : decode cX4_parseLetters 101 = .ok (.iconst 1, 1) := by decide +kernel
theorem dX4_parseLetters_102 : decode cX4_parseLetters 102 = .ok (.bipush 9, 2) := by decide +kernel
theorem dX4_parseLetters_104 : decode cX4_parseLetters 104 = .ok (.invokevirtual 60, 3) := by decide +kernel
theorem dX4_parseLetters_107 : decode cX4_parseLetters 107 = .ok (.ifCond .eq 12, 3) := by decide +kernel
theorem dX4_parseLetters_110 : decode cX4_parseLetters 110 = .ok (.aload_n 0, 1) := by decide +kernel
theorem dX4_parseLetters_111 : decode cX4_parseLetters 111 = .ok (.bipush 8, 2) := by decide +kernel
theorem dX4_parseLetters_113 : decode cX4_parseLetters 113 = .ok (.invokevirtual 35, 3) := by decide +kernel
theorem dX4_parseLetters_116 : decode cX4_parseLetters 116 = .ok (.ifCond .ne 5, 3) := by decide +kernel
theorem dX4_parseLetters_119 : decode cX4_parseLetters 119 = .ok (.iconst 0, 1) := by decide +kernel
theorem dX4_parseLetters_120 : decode cX4_parseLetters 120 = .ok (.ireturn, 1) := by decide +kernel
theorem dX4_parseLetters_121 : decode cX4_parseLetters 121 = .ok (.aload_n 0, 1) := by decide +kernel
theorem dX4_parseLetters_122 : decode cX4_parseLetters 122 = .ok (.getfield 21, 3) := by decide +kernel
theorem dX4_parseLetters_125 : decode cX4_parseLetters 125 = .ok (.getfield 74, 3) := by decide +kernel
theorem dX4_parseLetters_128 : decode cX4_parseLetters 128 = .ok (.iload_n 3, 1) := by decide +kernel
theorem dX4_parseLetters_129 : decode cX4_parseLetters 129 = .ok (.iload 4, 2) := by decide +kernel
theorem dX4_parseLetters_131 : decode cX4_parseLetters 131 = .ok (.aload_n 0, 1) := by decide +kernel
theorem dX4_parseLetters_132 : decode cX4_parseLetters 132 = .ok (.getfield 67, 3) := by decide +kernel
theorem dX4_parseLetters_135 : decode cX4_parseLetters 135 = .ok (.invokevirtual 100, 3) := by decide +kernel
theorem dX4_parseLetters_138 : decode cX4_parseLetters 138 = .ok (.aload_n 0, 1) := by decide +kernel
theorem dX4_parseLetters_139 : decode cX4_parseLetters 139 = .ok (.getfield 21, 3) := by decide +kernel
theorem dX4_parseLetters_142 : decode cX4_parseLetters 142 = .ok (.getfield 103, 3) := by decide +kernel
theorem dX4_parseLetters_145 : decode cX4_parseLetters 145 = .ok (.iconst 0, 1) := by decide +kernel
theorem dX4_parseLetters_146 : decode cX4_parseLetters 146 = .ok (.invokestatic 106, 3) := by decide +kernel
theorem dX4_parseLetters_149 : decode cX4_parseLetters 149 = .ok (.iinc 2 1, 3) := by decide +kernel
theorem dX4_parseLetters_152 : decode cX4_parseLetters 152 = .ok (.goto (-137), 3) := by decide +kernel
theorem dX4_parseLetters_155 : decode cX4_parseLetters 155 = .ok (.iconst 1, 1) := by decide +kernel
theorem dX4_parseLetters_156 : decode cX4_parseLetters 156 = .ok (.ireturn, 1) := by decide +kernel
theorem dX4_parseToken_0 : decode cX4_parseToken 0 = .ok (.aload_n 0, 1) := by decide +kernel
theorem dX4_parseToken_1 : decode cX4_parseToken 1 = .ok (.bipush 6, 2) := by decide +kernel
theorem dX4_parseToken_3 : decode cX4_parseToken 3 = .ok (.invokevirtual 35, 3) := by decide +kernel
theorem dX4_parseToken_6 : decode cX4_parseToken 6 = .ok (.ifCond .ne 5, 3) := by decide +kernel
theorem dX4_parseToken_9 : decode cX4_parseToken 9 = .ok (.iconst 1, 1) := by decide +kernel
theorem dX4_parseToken_10 : decode cX4_parseToken 10 = .ok (.ireturn, 1) := by decide +kernel
theorem dX4_parseToken_11 : decode cX4_parseToken 11 = .ok (.aload_n 0, 1) := by decide +kernel
theorem dX4_parseToken_12 : decode cX4_parseToken 12 = .ok (.getfield 21, 3) := by decide +kernel
theorem dX4_parseToken_15 : decode cX4_parseToken 15 = .ok (.getfield 74, 3) := by decide +kernel
theorem dX4_parseToken_18 : decode cX4_parseToken 18 = .ok (.aload_n 0, 1) := by decide +kernel
theorem dX4_parseToken_19 : decode cX4_parseToken 19 = .ok (.getfield 12, 3) := by decide +kernel
theorem dX4_parseToken_22 : decode cX4_parseToken 22 = .ok (.getfield 78, 3) := by decide +kernel
theorem dX4_parseToken_25 : decode cX4_parseToken 25 = .ok (.invokevirtual 110, 3) := by decide +kernel
theorem dX4_parseToken_28 : decode cX4_parseToken 28 = .ok (.ifCond .ne 5, 3) := by decide +kernel
theorem dX4_parseToken_31 : decode cX4_parseToken 31 = .ok (.iconst 0, 1) := by decide +kernel
theorem dX4_parseToken_32 : decode cX4_parseToken 32 = .ok (.ireturn, 1) := by decide +kernel
theorem dX4_parseToken_33 : decode cX4_parseToken 33 = .ok (.aload_n 0, 1) := by decide +kernel
theorem dX4_parseToken_34 : decode cX4_parseToken 34 = .ok (.iconst 0, 1) := by decide +kernel
theorem dX4_parseToken_35 : decode cX4_parseToken 35 = .ok (.aload_n 0, 1) := by decide +kernel
theorem dX4_parseToken_36 : decode cX4_parseToken 36 = .ok (.getfield 21, 3) := by decide +kernel
theorem dX4_parseToken_39 : decode cX4_parseToken 39 = .ok (.getfield 74, 3) := by decide +kernel
theorem dX4_parseToken_42 : decode cX4_parseToken 42 = .ok (.getfield 90, 3) := by decide +kernel
theorem dX4_parseToken_45 : decode cX4_parseToken 45 = .ok (.iconst 1, 1) := by decide +kernel
theorem dX4_parseToken_46 : decode cX4_parseToken 46 = .ok (.isub, 1) := by decide +kernel
theorem dX4_parseToken_47 : decode cX4_parseToken 47 = .ok (.invokevirtual 60, 3) := by decide +kernel
theorem dX4_parseToken_50 : decode cX4_parseToken 50 = .ok (.ifCond .eq 12, 3) := by decide +kernel
theorem dX4_parseToken_53 : decode cX4_parseToken 53 = .ok (.aload_n 0, 1) := by decide +kernel
theorem dX4_parseToken_54 : decode cX4_parseToken 54 = .ok (.bipush 8, 2) := by decide +kernel
theorem dX4_parseToken_56 : decode cX4_parseToken 56 = .ok (.invokevirtual 35, 3) := by decide +kernel
theorem dX4_parseToken_59 : decode cX4_parseToken 59 = .ok (.ifCond .ne 5, 3) := by decide +kernel
theorem dX4_parseToken_62 : decode cX4_parseToken 62 = .ok (.iconst 0, 1) := by decide +kernel
theorem dX4_parseToken_63 : decode cX4_parseToken 63 = .ok (.ireturn, 1) := by decide +kernel
theorem dX4_parseToken_64 : decode cX4_parseToken 64 = .ok (.aload_n 0, 1) := by decide +kernel
theorem dX4_parseToken_65 : decode cX4_parseToken 65 = .ok (.getfield 21, 3) := by decide +kernel
theorem dX4_parseToken_68 : decode cX4_parseToken 68 = .ok (.getfield 113, 3) := by decide +kernel
theorem dX4_parseToken_71 : decode cX4_parseToken 71 = .ok (.aload_n 0, 1) := by decide +kernel
theorem dX4_parseToken_72 : decode cX4_parseToken 72 = .ok (.getfield 67, 3) := by decide +kernel
theorem dX4_parseToken_75 : decode cX4_parseToken 75 = .ok (.invokevirtual 117, 3) := by decide +kernel
theorem dX4_parseToken_78 : decode cX4_parseToken 78 = .ok (.iconst 1, 1) := by decide +kernel
theorem dX4_parseToken_79 : decode cX4_parseToken 79 = .ok (.ireturn, 1) := by decide +kernel
theorem dX4_take_0 : decode cX4_take 0 = .ok (.aload_n 0, 1) := by decide +kernel
theorem dX4_take_1 : decode cX4_take 1 = .ok (.getfield 12, 3) := by decide +kernel
theorem dX4_take_4 : decode cX4_take 4 = .ok (.getfield 49, 3) := by decide +kernel
theorem dX4_take_7 : decode cX4_take 7 = .ok (.iload_n 1, 1) := by decide +kernel
theorem dX4_take_8 : decode cX4_take 8 = .ok (.if_icmp .eq 5, 3) := by decide +kernel
theorem dX4_take_11 : decode cX4_take 11 = .ok (.iconst 0, 1) := by decide +kernel
theorem dX4_take_12 : decode cX4_take 12 = .ok (.ireturn, 1) := by decide +kernel
theorem dX4_take_13 : decode cX4_take 13 = .ok (.aload_n 0, 1) := by decide +kernel
theorem dX4_take_14 : decode cX4_take 14 = .ok (.getfield 12, 3) := by decide +kernel
theorem dX4_take_17 : decode cX4_take 17 = .ok (.invokevirtual 122, 3) := by decide +kernel
theorem dX4_take_20 : decode cX4_take 20 = .ok (.iconst 1, 1) := by decide +kernel
theorem dX4_take_21 : decode cX4_take 21 = .ok (.ireturn, 1) := by decide +kernel
theorem dX4_takeNumber_0 : decode cX4_takeNumber 0 = .ok (.aload_n 0, 1) := by decide +kernel
theorem dX4_takeNumber_1 : decode cX4_takeNumber 1 = .ok (.getfield 12, 3) := by decide +kernel
theorem dX4_takeNumber_4 : decode cX4_takeNumber 4 = .ok (.getfield 49, 3) := by decide +kernel
theorem dX4_takeNumber_7 : decode cX4_takeNumber 7 = .ok (.bipush 7, 2) := by decide +kernel
theorem dX4_takeNumber_9 : decode cX4_takeNumber 9 = .ok (.if_icmp .ne 18, 3) := by decide +kernel
theorem dX4_takeNumber_12 : decode cX4_takeNumber 12 = .ok (.aload_n 0, 1) := by decide +kernel
theorem dX4_takeNumber_13 : decode cX4_takeNumber 13 = .ok (.getfield 12, 3) := by decide +kernel
theorem dX4_takeNumber_16 : decode cX4_takeNumber 16 = .ok (.getfield 78, 3) := by decide +kernel
theorem dX4_takeNumber_19 : decode cX4_takeNumber 19 = .ok (.iload_n 1, 1) := by decide +kernel
theorem dX4_takeNumber_20 : decode cX4_takeNumber 20 = .ok (.iload_n 2, 1) := by decide +kernel
theorem dX4_takeNumber_21 : decode cX4_takeNumber 21 = .ok (.invokestatic 125, 3) := by decide +kernel
theorem dX4_takeNumber_24 : decode cX4_takeNumber 24 = .ok (.ifCond .ne 5, 3) := by decide +kernel
theorem dX4_takeNumber_27 : decode cX4_takeNumber 27 = .ok (.iconst 0, 1) := by decide +kernel
theorem dX4_takeNumber_28 : decode cX4_takeNumber 28 = .ok (.ireturn, 1) := by decide +kernel
theorem dX4_takeNumber_29 : decode cX4_takeNumber 29 = .ok (.aload_n 0, 1) := by decide +kernel
theorem dX4_takeNumber_30 : decode cX4_takeNumber 30 = .ok (.aload_n 0, 1) := by decide +kernel
theorem dX4_takeNumber_31 : decode cX4_takeNumber 31 = .ok (.getfield 12, 3) := by decide +kernel
theorem dX4_takeNumber_34 : decode cX4_takeNumber 34 = .ok (.getfield 78, 3) := by decide +kernel
theorem dX4_takeNumber_37 : decode cX4_takeNumber 37 = .ok (.putfield 67, 3) := by decide +kernel
theorem dX4_takeNumber_40 : decode cX4_takeNumber 40 = .ok (.aload_n 0, 1) := by decide +kernel
theorem dX4_takeNumber_41 : decode cX4_takeNumber 41 = .ok (.getfield 12, 3) := by decide +kernel
theorem dX4_takeNumber_44 : decode cX4_takeNumber 44 = .ok (.invokevirtual 122, 3) := by decide +kernel
theorem dX4_takeNumber_47 : decode cX4_takeNumber 47 = .ok (.iconst 1, 1) := by decide +kernel
theorem dX4_takeNumber_48 : decode cX4_takeNumber 48 = .ok (.ireturn, 1) := by decide +kernel
theorem dX5_init_0 : decode cX5_init 0 = .ok (.aload_n 0, 1) := by decide +kernel
theorem dX5_init_1 : decode cX5_init 1 = .ok (.invokespecial 3, 3) := by decide +kernel
theorem dX5_init_4 : decode cX5_init 4 = .ok (.aload_n 0, 1) := by decide +kernel
theorem dX5_init_5 : decode cX5_init 5 = .ok (.iconst 2, 1) := by decide +kernel
theorem dX5_init_6 : decode cX5_init 6 = .ok (.anewarray 9, 3) := by decide +kernel
theorem dX5_init_9 : decode cX5_init 9 = .ok (.putfield 11, 3) := by decide +kernel
theorem dX5_init_12 : decode cX5_init 12 = .ok (.aload_n 0, 1) := by decide +kernel
theorem dX5_init_13 : decode cX5_init 13 = .ok (.iconst 2, 1) := by decide +kernel
theorem dX5_init_14 : decode cX5_init 14 = .ok (.newarray .boolean, 2) := by decide +kernel
theorem dX5_init_16 : decode cX5_init 16 = .ok (.putfield 17, 3) := by decide +kernel
theorem dX5_init_19 : decode cX5_init 19 = .ok (.iconst 0, 1) := by decide +kernel
theorem dX5_init_20 : decode cX5_init 20 = .ok (.istore_n 1, 1) := by decide +kernel
theorem dX5_init_21 : decode cX5_init 21 = .ok (.iload_n 1, 1) := by decide +kernel
theorem dX5_init_22 : decode cX5_init 22 = .ok (.iconst 2, 1) := by decide +kernel
theorem dX5_init_23 : decode cX5_init 23 = .ok (.if_icmp .ge 22, 3) := by decide +kernel
theorem dX5_init_26 : decode cX5_init 26 = .ok (.aload_n 0, 1) := by decide +kernel
theorem dX5_init_27 : decode cX5_init 27 = .ok (.getfield 11, 3) := by decide +kernel
theorem dX5_init_30 : decode cX5_init 30 = .ok (.iload_n 1, 1) := by decide +kernel
theorem dX5_init_31 : decode cX5_init 31 = .ok (.new 9, 3) := by decide +kernel
theorem dX5_init_34 : decode cX5_init 34 = .ok (.dup, 1) := by decide +kernel
theorem dX5_init_35 : decode cX5_init 35 = .ok (.invokespecial 21, 3) := by decide +kernel
theorem dX5_init_38 : decode cX5_init 38 = .ok (.aastore, 1) := by decide +kernel
theorem dX5_init_39 : decode cX5_init 39 = .ok (.iinc 1 1, 3) := by decide +kernel
theorem dX5_init_42 : decode cX5_init 42 = .ok (.goto (-21), 3) := by decide +kernel
theorem dX5_init_45 : decode cX5_init 45 = .ok (.return_, 1) := by decide +kernel
theorem dX5_forget_0 : decode cX5_forget 0 = .ok (.iconst 0, 1) := by decide +kernel
theorem dX5_forget_1 : decode cX5_forget 1 = .ok (.istore_n 1, 1) := by decide +kernel
theorem dX5_forget_2 : decode cX5_forget 2 = .ok (.iload_n 1, 1) := by decide +kernel
theorem dX5_forget_3 : decode cX5_forget 3 = .ok (.iconst 2, 1) := by decide +kernel
theorem dX5_forget_4 : decode cX5_forget 4 = .ok (.if_icmp .ge 16, 3) := by decide +kernel
theorem dX5_forget_7 : decode cX5_forget 7 = .ok (.aload_n 0, 1) := by decide +kernel
theorem dX5_forget_8 : decode cX5_forget 8 = .ok (.getfield 17, 3) := by decide +kernel
theorem dX5_forget_11 : decode cX5_forget 11 = .ok (.iload_n 1, 1) := by decide +kernel
theorem dX5_forget_12 : decode cX5_forget 12 = .ok (.iconst 0, 1) := by decide +kernel
theorem dX5_forget_13 : decode cX5_forget 13 = .ok (.bastore, 1) := by decide +kernel
theorem dX5_forget_14 : decode cX5_forget 14 = .ok (.iinc 1 1, 3) := by decide +kernel
theorem dX5_forget_17 : decode cX5_forget 17 = .ok (.goto (-15), 3) := by decide +kernel
theorem dX5_forget_20 : decode cX5_forget 20 = .ok (.return_, 1) := by decide +kernel
theorem dX5_fill_0 : decode cX5_fill 0 = .ok (.iload_n 1, 1) := by decide +kernel
theorem dX5_fill_1 : decode cX5_fill 1 = .ok (.ifCond .lt 8, 3) := by decide +kernel
theorem dX5_fill_4 : decode cX5_fill 4 = .ok (.iload_n 1, 1) := by decide +kernel
theorem dX5_fill_5 : decode cX5_fill 5 = .ok (.iconst 2, 1) := by decide +kernel
theorem dX5_fill_6 : decode cX5_fill 6 = .ok (.if_icmp .lt 4, 3) := by decide +kernel
theorem dX5_fill_9 : decode cX5_fill 9 = .ok (.return_, 1) := by decide +kernel
theorem dX5_fill_10 : decode cX5_fill 10 = .ok (.aload_n 0, 1) := by decide +kernel
theorem dX5_fill_11 : decode cX5_fill 11 = .ok (.getfield 11, 3) := by decide +kernel
theorem dX5_fill_14 : decode cX5_fill 14 = .ok (.iload_n 1, 1) := by decide +kernel
theorem dX5_fill_15 : decode cX5_fill 15 = .ok (.aaload, 1) := by decide +kernel
theorem dX5_fill_16 : decode cX5_fill 16 = .ok (.astore_n 3, 1) := by decide +kernel
theorem dX5_fill_17 : decode cX5_fill 17 = .ok (.aload_n 3, 1) := by decide +kernel
theorem dX5_fill_18 : decode cX5_fill 18 = .ok (.ifnonnull 4, 3) := by decide +kernel
theorem dX5_fill_21 : decode cX5_fill 21 = .ok (.return_, 1) := by decide +kernel
theorem dX5_fill_22 : decode cX5_fill 22 = .ok (.aload_n 3, 1) := by decide +kernel
theorem dX5_fill_23 : decode cX5_fill 23 = .ok (.aload_n 2, 1) := by decide +kernel
theorem dX5_fill_24 : decode cX5_fill 24 = .ok (.invokevirtual 22, 3) := by decide +kernel
theorem dX5_fill_27 : decode cX5_fill 27 = .ok (.aload_n 0, 1) := by decide +kernel
theorem dX5_fill_28 : decode cX5_fill 28 = .ok (.getfield 17, 3) := by decide +kernel
theorem dX5_fill_31 : decode cX5_fill 31 = .ok (.iload_n 1, 1) := by decide +kernel
theorem dX5_fill_32 : decode cX5_fill 32 = .ok (.iconst 1, 1) := by decide +kernel
theorem dX5_fill_33 : decode cX5_fill 33 = .ok (.bastore, 1) := by decide +kernel
theorem dX5_fill_34 : decode cX5_fill 34 = .ok (.return_, 1) := by decide +kernel
theorem dX5_keptIn_0 : decode cX5_keptIn 0 = .ok (.iload_n 1, 1) := by decide +kernel
theorem dX5_keptIn_1 : decode cX5_keptIn 1 = .ok (.ifCond .lt 17, 3) := by decide +kernel
theorem dX5_keptIn_4 : decode cX5_keptIn 4 = .ok (.iload_n 1, 1) := by decide +kernel
theorem dX5_keptIn_5 : decode cX5_keptIn 5 = .ok (.iconst 2, 1) := by decide +kernel
theorem dX5_keptIn_6 : decode cX5_keptIn 6 = .ok (.if_icmp .ge 12, 3) := by decide +kernel
theorem dX5_keptIn_9 : decode cX5_keptIn 9 = .ok (.aload_n 0, 1) := by decide +kernel
theorem dX5_keptIn_10 : decode cX5_keptIn 10 = .ok (.getfield 17, 3) := by decide +kernel
theorem dX5_keptIn_13 : decode cX5_keptIn 13 = .ok (.iload_n 1, 1) := by decide +kernel
theorem dX5_keptIn_14 : decode cX5_keptIn 14 = .ok (.baload, 1) := by decide +kernel
theorem dX5_keptIn_15 : decode cX5_keptIn 15 = .ok (.ifCond .ne 5, 3) := by decide +kernel
theorem dX5_keptIn_18 : decode cX5_keptIn 18 = .ok (.aconst_null, 1) := by decide +kernel
theorem dX5_keptIn_19 : decode cX5_keptIn 19 = .ok (.areturn, 1) := by decide +kernel
theorem dX5_keptIn_20 : decode cX5_keptIn 20 = .ok (.aload_n 0, 1) := by decide +kernel
theorem dX5_keptIn_21 : decode cX5_keptIn 21 = .ok (.getfield 11, 3) := by decide +kernel
theorem dX5_keptIn_24 : decode cX5_keptIn 24 = .ok (.iload_n 1, 1) := by decide +kernel
theorem dX5_keptIn_25 : decode cX5_keptIn 25 = .ok (.aaload, 1) := by decide +kernel
theorem dX5_keptIn_26 : decode cX5_keptIn 26 = .ok (.areturn, 1) := by decide +kernel
theorem dX6_init_0 : decode cX6_init 0 = .ok (.aload_n 0, 1) := by decide +kernel
theorem dX6_init_1 : decode cX6_init 1 = .ok (.invokespecial 3, 3) := by decide +kernel
theorem dX6_init_4 : decode cX6_init 4 = .ok (.aload_n 0, 1) := by decide +kernel
theorem dX6_init_5 : decode cX6_init 5 = .ok (.iconst 3, 1) := by decide +kernel
theorem dX6_init_6 : decode cX6_init 6 = .ok (.newarray .int, 2) := by decide +kernel
theorem dX6_init_8 : decode cX6_init 8 = .ok (.putfield 9, 3) := by decide +kernel
theorem dX6_init_11 : decode cX6_init 11 = .ok (.aload_n 0, 1) := by decide +kernel
theorem dX6_init_12 : decode cX6_init 12 = .ok (.bipush 9, 2) := by decide +kernel
theorem dX6_init_14 : decode cX6_init 14 = .ok (.newarray .int, 2) := by decide +kernel
theorem dX6_init_16 : decode cX6_init 16 = .ok (.putfield 15, 3) := by decide +kernel
theorem dX6_init_19 : decode cX6_init 19 = .ok (.aload_n 0, 1) := by decide +kernel
theorem dX6_init_20 : decode cX6_init 20 = .ok (.new 18, 3) := by decide +kernel
theorem dX6_init_23 : decode cX6_init 23 = .ok (.dup, 1) := by decide +kernel
theorem dX6_init_24 : decode cX6_init 24 = .ok (.invokespecial 20, 3) := by decide +kernel
theorem dX6_init_27 : decode cX6_init 27 = .ok (.putfield 21, 3) := by decide +kernel
theorem dX6_init_30 : decode cX6_init 30 = .ok (.aload_n 0, 1) := by decide +kernel
theorem dX6_init_31 : decode cX6_init 31 = .ok (.new 25, 3) := by decide +kernel
theorem dX6_init_34 : decode cX6_init 34 = .ok (.dup, 1) := by decide +kernel
theorem dX6_init_35 : decode cX6_init 35 = .ok (.invokespecial 27, 3) := by decide +kernel
theorem dX6_init_38 : decode cX6_init 38 = .ok (.putfield 28, 3) := by decide +kernel
theorem dX6_init_41 : decode cX6_init 41 = .ok (.aload_n 0, 1) := by decide +kernel
theorem dX6_init_42 : decode cX6_init 42 = .ok (.new 32, 3) := by decide +kernel
theorem dX6_init_45 : decode cX6_init 45 = .ok (.dup, 1) := by decide +kernel
theorem dX6_init_46 : decode cX6_init 46 = .ok (.invokespecial 34, 3) := by decide +kernel
theorem dX6_init_49 : decode cX6_init 49 = .ok (.putfield 35, 3) := by decide +kernel
theorem dX6_init_52 : decode cX6_init 52 = .ok (.return_, 1) := by decide +kernel
theorem dX6_copyFrom_0 : decode cX6_copyFrom 0 = .ok (.aload_n 1, 1) := by decide +kernel
theorem dX6_copyFrom_1 : decode cX6_copyFrom 1 = .ok (.getfield 9, 3) := by decide +kernel
theorem dX6_copyFrom_4 : decode cX6_copyFrom 4 = .ok (.aload_n 0, 1) := by decide +kernel
theorem dX6_copyFrom_5 : decode cX6_copyFrom 5 = .ok (.getfield 9, 3) := by decide +kernel
theorem dX6_copyFrom_8 : decode cX6_copyFrom 8 = .ok (.invokestatic 39, 3) := by decide +kernel
theorem dX6_copyFrom_11 : decode cX6_copyFrom 11 = .ok (.aload_n 1, 1) := by decide +kernel
theorem dX6_copyFrom_12 : decode cX6_copyFrom 12 = .ok (.getfield 15, 3) := by decide +kernel
theorem dX6_copyFrom_15 : decode cX6_copyFrom 15 = .ok (.aload_n 0, 1) := by decide +kernel
theorem dX6_copyFrom_16 : decode cX6_copyFrom 16 = .ok (.getfield 15, 3) := by decide +kernel
theorem dX6_copyFrom_19 : decode cX6_copyFrom 19 = .ok (.invokestatic 39, 3) := by decide +kernel
theorem dX6_copyFrom_22 : decode cX6_copyFrom 22 = .ok (.aload_n 0, 1) := by decide +kernel
theorem dX6_copyFrom_23 : decode cX6_copyFrom 23 = .ok (.getfield 21, 3) := by decide +kernel
theorem dX6_copyFrom_26 : decode cX6_copyFrom 26 = .ok (.aload_n 1, 1) := by decide +kernel
theorem dX6_copyFrom_27 : decode cX6_copyFrom 27 = .ok (.getfield 21, 3) := by decide +kernel
theorem dX6_copyFrom_30 : decode cX6_copyFrom 30 = .ok (.invokevirtual 43, 3) := by decide +kernel
theorem dX6_copyFrom_33 : decode cX6_copyFrom 33 = .ok (.aload_n 0, 1) := by decide +kernel
theorem dX6_copyFrom_34 : decode cX6_copyFrom 34 = .ok (.getfield 28, 3) := by decide +kernel
theorem dX6_copyFrom_37 : decode cX6_copyFrom 37 = .ok (.aload_n 1, 1) := by decide +kernel
theorem dX6_copyFrom_38 : decode cX6_copyFrom 38 = .ok (.getfield 28, 3) := by decide +kernel
theorem dX6_copyFrom_41 : decode cX6_copyFrom 41 = .ok (.invokevirtual 47, 3) := by decide +kernel
theorem dX6_copyFrom_44 : decode cX6_copyFrom 44 = .ok (.aload_n 0, 1) := by decide +kernel
theorem dX6_copyFrom_45 : decode cX6_copyFrom 45 = .ok (.getfield 35, 3) := by decide +kernel
theorem dX6_copyFrom_48 : decode cX6_copyFrom 48 = .ok (.aload_n 1, 1) := by decide +kernel
theorem dX6_copyFrom_49 : decode cX6_copyFrom 49 = .ok (.getfield 35, 3) := by decide +kernel
theorem dX6_copyFrom_52 : decode cX6_copyFrom 52 = .ok (.invokevirtual 50, 3) := by decide +kernel
theorem dX6_copyFrom_55 : decode cX6_copyFrom 55 = .ok (.aload_n 0, 1) := by decide +kernel
theorem dX6_copyFrom_56 : decode cX6_copyFrom 56 = .ok (.aload_n 1, 1) := by decide +kernel
theorem dX6_copyFrom_57 : decode cX6_copyFrom 57 = .ok (.getfield 53, 3) := by decide +kernel
theorem dX6_copyFrom_60 : decode cX6_copyFrom 60 = .ok (.putfield 53, 3) := by decide +kernel
theorem dX6_copyFrom_63 : decode cX6_copyFrom 63 = .ok (.aload_n 0, 1) := by decide +kernel
theorem dX6_copyFrom_64 : decode cX6_copyFrom 64 = .ok (.aload_n 1, 1) := by decide +kernel
theorem dX6_copyFrom_65 : decode cX6_copyFrom 65 = .ok (.getfield 57, 3) := by decide +kernel
theorem dX6_copyFrom_68 : decode cX6_copyFrom 68 = .ok (.putfield 57, 3) := by decide +kernel
theorem dX6_copyFrom_71 : decode cX6_copyFrom 71 = .ok (.return_, 1) := by decide +kernel
theorem dX6_beginAsNew_0 : decode cX6_beginAsNew 0 = .ok (.aload_n 0, 1) := by decide +kernel
theorem dX6_beginAsNew_1 : decode cX6_beginAsNew 1 = .ok (.getfield 9, 3) := by decide +kernel
theorem dX6_beginAsNew_4 : decode cX6_beginAsNew 4 = .ok (.iconst 0, 1) := by decide +kernel
theorem dX6_beginAsNew_5 : decode cX6_beginAsNew 5 = .ok (.bipush 6, 2) := by decide +kernel
theorem dX6_beginAsNew_7 : decode cX6_beginAsNew 7 = .ok (.invokestatic 60, 3) := by decide +kernel
theorem dX6_beginAsNew_10 : decode cX6_beginAsNew 10 = .ok (.aload_n 0, 1) := by decide +kernel
theorem dX6_beginAsNew_11 : decode cX6_beginAsNew 11 = .ok (.getfield 9, 3) := by decide +kernel
theorem dX6_beginAsNew_14 : decode cX6_beginAsNew 14 = .ok (.iconst 1, 1) := by decide +kernel
theorem dX6_beginAsNew_15 : decode cX6_beginAsNew 15 = .ok (.bipush 10, 2) := by decide +kernel
theorem dX6_beginAsNew_17 : decode cX6_beginAsNew 17 = .ok (.invokestatic 60, 3) := by decide +kernel
theorem dX6_beginAsNew_20 : decode cX6_beginAsNew 20 = .ok (.aload_n 0, 1) := by decide +kernel
theorem dX6_beginAsNew_21 : decode cX6_beginAsNew 21 = .ok (.getfield 9, 3) := by decide +kernel
theorem dX6_beginAsNew_24 : decode cX6_beginAsNew 24 = .ok (.iconst 2, 1) := by decide +kernel
theorem dX6_beginAsNew_25 : decode cX6_beginAsNew 25 = .ok (.bipush 30, 2) := by decide +kernel
theorem dX6_beginAsNew_27 : decode cX6_beginAsNew 27 = .ok (.invokestatic 60, 3) := by decide +kernel
theorem dX6_beginAsNew_30 : decode cX6_beginAsNew 30 = .ok (.aload_n 0, 1) := by decide +kernel
theorem dX6_beginAsNew_31 : decode cX6_beginAsNew 31 = .ok (.getfield 21, 3) := by decide +kernel
theorem dX6_beginAsNew_34 : decode cX6_beginAsNew 34 = .ok (.iconst 2, 1) := by decide +kernel
theorem dX6_beginAsNew_35 : decode cX6_beginAsNew 35 = .ok (.bipush 40, 2) := by decide +kernel
theorem dX6_beginAsNew_37 : decode cX6_beginAsNew 37 = .ok (.iconst 1, 1) := by decide +kernel
theorem dX6_beginAsNew_38 : decode cX6_beginAsNew 38 = .ok (.invokevirtual 64, 3) := by decide +kernel
theorem dX6_beginAsNew_41 : decode cX6_beginAsNew 41 = .ok (.aload_n 0, 1) := by decide +kernel
theorem dX6_beginAsNew_42 : decode cX6_beginAsNew 42 = .ok (.getfield 21, 3) := by decide +kernel
theorem dX6_beginAsNew_45 : decode cX6_beginAsNew 45 = .ok (.iconst 3, 1) := by decide +kernel
theorem dX6_beginAsNew_46 : decode cX6_beginAsNew 46 = .ok (.bipush 70, 2) := by decide +kernel
theorem dX6_beginAsNew_48 : decode cX6_beginAsNew 48 = .ok (.iconst 1, 1) := by decide +kernel
theorem dX6_beginAsNew_49 : decode cX6_beginAsNew 49 = .ok (.invokevirtual 64, 3) := by decide +kernel
theorem dX6_beginAsNew_52 : decode cX6_beginAsNew 52 = .ok (.aload_n 0, 1) := by decide +kernel
theorem dX6_beginAsNew_53 : decode cX6_beginAsNew 53 = .ok (.getfield 21, 3) := by decide +kernel
theorem dX6_beginAsNew_56 : decode cX6_beginAsNew 56 = .ok (.iconst 1, 1) := by decide +kernel
theorem dX6_beginAsNew_57 : decode cX6_beginAsNew 57 = .ok (.bipush 20, 2) := by decide +kernel
theorem dX6_beginAsNew_59 : decode cX6_beginAsNew 59 = .ok (.iconst 1, 1) := by decide +kernel
theorem dX6_beginAsNew_60 : decode cX6_beginAsNew 60 = .ok (.invokevirtual 64, 3) := by decide +kernel
theorem dX6_beginAsNew_63 : decode cX6_beginAsNew 63 = .ok (.aload_n 0, 1) := by decide +kernel
theorem dX6_beginAsNew_64 : decode cX6_beginAsNew 64 = .ok (.getfield 28, 3) := by decide +kernel
theorem dX6_beginAsNew_67 : decode cX6_beginAsNew 67 = .ok (.iconst 0, 1) := by decide +kernel
theorem dX6_beginAsNew_68 : decode cX6_beginAsNew 68 = .ok (.invokevirtual 68, 3) := by decide +kernel
theorem dX6_beginAsNew_71 : decode cX6_beginAsNew 71 = .ok (.return_, 1) := by decide +kernel
theorem dX6_clear_0 : decode cX6_clear 0 = .ok (.iconst 0, 1) := by decide +kernel
theorem dX6_clear_1 : decode cX6_clear 1 = .ok (.istore_n 1, 1) := by decide +kernel
theorem dX6_clear_2 : decode cX6_clear 2 = .ok (.iload_n 1, 1) := by decide +kernel
theorem dX6_clear_3 : decode cX6_clear 3 = .ok (.bipush 9, 2) := by decide +kernel
theorem dX6_clear_5 : decode cX6_clear 5 = .ok (.if_icmp .ge 18, 3) := by decide +kernel
theorem dX6_clear_8 : decode cX6_clear 8 = .ok (.aload_n 0, 1) := by decide +kernel
theorem dX6_clear_9 : decode cX6_clear 9 = .ok (.getfield 15, 3) := by decide +kernel
theorem dX6_clear_12 : decode cX6_clear 12 = .ok (.iload_n 1, 1) := by decide +kernel
theorem dX6_clear_13 : decode cX6_clear 13 = .ok (.iconst 0, 1) := by decide +kernel
theorem dX6_clear_14 : decode cX6_clear 14 = .ok (.invokestatic 60, 3) := by decide +kernel
theorem dX6_clear_17 : decode cX6_clear 17 = .ok (.iinc 1 1, 3) := by decide +kernel
theorem dX6_clear_20 : decode cX6_clear 20 = .ok (.goto (-18), 3) := by decide +kernel
theorem dX6_clear_23 : decode cX6_clear 23 = .ok (.aload_n 0, 1) := by decide +kernel
theorem dX6_clear_24 : decode cX6_clear 24 = .ok (.getfield 21, 3) := by decide +kernel
theorem dX6_clear_27 : decode cX6_clear 27 = .ok (.iconst 0, 1) := by decide +kernel
theorem dX6_clear_28 : decode cX6_clear 28 = .ok (.putfield 71, 3) := by decide +kernel
theorem dX6_clear_31 : decode cX6_clear 31 = .ok (.aload_n 0, 1) := by decide +kernel
theorem dX6_clear_32 : decode cX6_clear 32 = .ok (.getfield 28, 3) := by decide +kernel
theorem dX6_clear_35 : decode cX6_clear 35 = .ok (.iconst 0, 1) := by decide +kernel
theorem dX6_clear_36 : decode cX6_clear 36 = .ok (.putfield 74, 3) := by decide +kernel
theorem dX6_clear_39 : decode cX6_clear 39 = .ok (.aload_n 0, 1) := by decide +kernel
theorem dX6_clear_40 : decode cX6_clear 40 = .ok (.getfield 28, 3) := by decide +kernel
theorem dX6_clear_43 : decode cX6_clear 43 = .ok (.iconst 0, 1) := by decide +kernel
theorem dX6_clear_44 : decode cX6_clear 44 = .ok (.putfield 75, 3) := by decide +kernel
theorem dX6_clear_47 : decode cX6_clear 47 = .ok (.aload_n 0, 1) := by decide +kernel
theorem dX6_clear_48 : decode cX6_clear 48 = .ok (.getfield 35, 3) := by decide +kernel
theorem dX6_clear_51 : decode cX6_clear 51 = .ok (.iconst 0, 1) := by decide +kernel
theorem dX6_clear_52 : decode cX6_clear 52 = .ok (.putfield 78, 3) := by decide +kernel
theorem dX6_clear_55 : decode cX6_clear 55 = .ok (.aload_n 0, 1) := by decide +kernel
theorem dX6_clear_56 : decode cX6_clear 56 = .ok (.getfield 35, 3) := by decide +kernel
theorem dX6_clear_59 : decode cX6_clear 59 = .ok (.iconst 0, 1) := by decide +kernel
theorem dX6_clear_60 : decode cX6_clear 60 = .ok (.putfield 81, 3) := by decide +kernel
theorem dX6_clear_63 : decode cX6_clear 63 = .ok (.aload_n 0, 1) := by decide +kernel
theorem dX6_clear_64 : decode cX6_clear 64 = .ok (.iconst 0, 1) := by decide +kernel
theorem dX6_clear_65 : decode cX6_clear 65 = .ok (.putfield 53, 3) := by decide +kernel
theorem dX6_clear_68 : decode cX6_clear 68 = .ok (.aload_n 0, 1) := by decide +kernel
theorem dX6_clear_69 : decode cX6_clear 69 = .ok (.iconst 0, 1) := by decide +kernel
theorem dX6_clear_70 : decode cX6_clear 70 = .ok (.putfield 57, 3) := by decide +kernel
theorem dX6_clear_73 : decode cX6_clear 73 = .ok (.return_, 1) := by decide +kernel
theorem dX6_shutOrOpen_0 : decode cX6_shutOrOpen 0 = .ok (.aload_n 0, 1) := by decide +kernel
theorem dX6_shutOrOpen_1 : decode cX6_shutOrOpen 1 = .ok (.getfield 21, 3) := by decide +kernel
theorem dX6_shutOrOpen_4 : decode cX6_shutOrOpen 4 = .ok (.getfield 82, 3) := by decide +kernel
theorem dX6_shutOrOpen_7 : decode cX6_shutOrOpen 7 = .ok (.iload_n 1, 1) := by decide +kernel
theorem dX6_shutOrOpen_8 : decode cX6_shutOrOpen 8 = .ok (.iload_n 2, 1) := by decide +kernel
theorem dX6_shutOrOpen_9 : decode cX6_shutOrOpen 9 = .ok (.invokestatic 60, 3) := by decide +kernel
theorem dX6_shutOrOpen_12 : decode cX6_shutOrOpen 12 = .ok (.aload_n 0, 1) := by decide +kernel
theorem dX6_shutOrOpen_13 : decode cX6_shutOrOpen 13 = .ok (.getfield 35, 3) := by decide +kernel
theorem dX6_shutOrOpen_16 : decode cX6_shutOrOpen 16 = .ok (.bipush 7, 2) := by decide +kernel
theorem dX6_shutOrOpen_18 : decode cX6_shutOrOpen 18 = .ok (.iload_n 1, 1) := by decide +kernel
theorem dX6_shutOrOpen_19 : decode cX6_shutOrOpen 19 = .ok (.iload_n 2, 1) := by decide +kernel
theorem dX6_shutOrOpen_20 : decode cX6_shutOrOpen 20 = .ok (.invokevirtual 85, 3) := by decide +kernel
theorem dX6_shutOrOpen_23 : decode cX6_shutOrOpen 23 = .ok (.aload_n 0, 1) := by decide +kernel
theorem dX6_shutOrOpen_24 : decode cX6_shutOrOpen 24 = .ok (.getfield 28, 3) := by decide +kernel
theorem dX6_shutOrOpen_27 : decode cX6_shutOrOpen 27 = .ok (.iload_n 1, 1) := by decide +kernel
theorem dX6_shutOrOpen_28 : decode cX6_shutOrOpen 28 = .ok (.invokevirtual 86, 3) := by decide +kernel
theorem dX6_shutOrOpen_31 : decode cX6_shutOrOpen 31 = .ok (.istore_n 3, 1) := by decide +kernel
theorem dX6_shutOrOpen_32 : decode cX6_shutOrOpen 32 = .ok (.iload_n 3, 1) := by decide +kernel
theorem dX6_shutOrOpen_33 : decode cX6_shutOrOpen 33 = .ok (.bipush (-2), 2) := by decide +kernel
theorem dX6_shutOrOpen_35 : decode cX6_shutOrOpen 35 = .ok (.if_icmp .eq 8, 3) := by decide +kernel
theorem dX6_shutOrOpen_38 : decode cX6_shutOrOpen 38 = .ok (.aload_n 0, 1) := by decide +kernel
theorem dX6_shutOrOpen_39 : decode cX6_shutOrOpen 39 = .ok (.iload_n 3, 1) := by decide +kernel
theorem dX6_shutOrOpen_40 : decode cX6_shutOrOpen 40 = .ok (.invokevirtual 90, 3) := by decide +kernel
theorem dX6_shutOrOpen_43 : decode cX6_shutOrOpen 43 = .ok (.return_, 1) := by decide +kernel
theorem dX6_loseToken_0 : decode cX6_loseToken 0 = .ok (.aload_n 0, 1) := by decide +kernel
theorem dX6_loseToken_1 : decode cX6_loseToken 1 = .ok (.getfield 35, 3) := by decide +kernel
theorem dX6_loseToken_4 : decode cX6_loseToken 4 = .ok (.iconst 5, 1) := by decide +kernel
theorem dX6_loseToken_5 : decode cX6_loseToken 5 = .ok (.aload_n 0, 1) := by decide +kernel
theorem dX6_loseToken_6 : decode cX6_loseToken 6 = .ok (.getfield 28, 3) := by decide +kernel
theorem dX6_loseToken_9 : decode cX6_loseToken 9 = .ok (.getfield 93, 3) := by decide +kernel
theorem dX6_loseToken_12 : decode cX6_loseToken 12 = .ok (.iload_n 1, 1) := by decide +kernel
theorem dX6_loseToken_13 : decode cX6_loseToken 13 = .ok (.invokestatic 96, 3) := by decide +kernel
theorem dX6_loseToken_16 : decode cX6_loseToken 16 = .ok (.aload_n 0, 1) := by decide +kernel
theorem dX6_loseToken_17 : decode cX6_loseToken 17 = .ok (.getfield 28, 3) := by decide +kernel
theorem dX6_loseToken_20 : decode cX6_loseToken 20 = .ok (.getfield 100, 3) := by decide +kernel
theorem dX6_loseToken_23 : decode cX6_loseToken 23 = .ok (.iload_n 1, 1) := by decide +kernel
theorem dX6_loseToken_24 : decode cX6_loseToken 24 = .ok (.invokestatic 96, 3) := by decide +kernel
theorem dX6_loseToken_27 : decode cX6_loseToken 27 = .ok (.invokevirtual 85, 3) := by decide +kernel
theorem dX6_loseToken_30 : decode cX6_loseToken 30 = .ok (.aload_n 0, 1) := by decide +kernel
theorem dX6_loseToken_31 : decode cX6_loseToken 31 = .ok (.getfield 15, 3) := by decide +kernel
theorem dX6_loseToken_34 : decode cX6_loseToken 34 = .ok (.bipush 6, 2) := by decide +kernel
theorem dX6_loseToken_36 : decode cX6_loseToken 36 = .ok (.invokestatic 103, 3) := by decide +kernel
theorem dX6_loseToken_39 : decode cX6_loseToken 39 = .ok (.aload_n 0, 1) := by decide +kernel
theorem dX6_loseToken_40 : decode cX6_loseToken 40 = .ok (.getfield 28, 3) := by decide +kernel
theorem dX6_loseToken_43 : decode cX6_loseToken 43 = .ok (.iload_n 1, 1) := by decide +kernel
theorem dX6_loseToken_44 : decode cX6_loseToken 44 = .ok (.invokevirtual 107, 3) := by decide +kernel
theorem dX6_loseToken_47 : decode cX6_loseToken 47 = .ok (.return_, 1) := by decide +kernel
theorem dX6_tearUpWhereTwoMeet_0 : decode cX6_tearUpWhereTwoMeet 0 = .ok (.iconst 0, 1) := by decide +kernel
theorem dX6_tearUpWhereTwoMeet_1 : decode cX6_tearUpWhereTwoMeet 1 = .ok (.istore_n 1, 1) := by decide +kernel
theorem dX6_tearUpWhereTwoMeet_2 : decode cX6_tearUpWhereTwoMeet 2 = .ok (.iconst 0, 1) := by decide +kernel
theorem dX6_tearUpWhereTwoMeet_3 : decode cX6_tearUpWhereTwoMeet 3 = .ok (.istore_n 2, 1) := by decide +kernel
theorem dX6_tearUpWhereTwoMeet_4 : decode cX6_tearUpWhereTwoMeet 4 = .ok (.iload_n 2, 1) := by decide +kernel
theorem dX6_tearUpWhereTwoMeet_5 : decode cX6_tearUpWhereTwoMeet 5 = .ok (.iconst 3, 1) := by decide +kernel
theorem dX6_tearUpWhereTwoMeet_6 : decode cX6_tearUpWhereTwoMeet 6 = .ok (.if_icmp .ge 72, 3) := by decide +kernel
theorem dX6_tearUpWhereTwoMeet_9 : decode cX6_tearUpWhereTwoMeet 9 = .ok (.aload_n 0, 1) := by decide +kernel
theorem dX6_tearUpWhereTwoMeet_10 : decode cX6_tearUpWhereTwoMeet 10 = .ok (.getfield 28, 3) := by decide +kernel
theorem dX6_tearUpWhereTwoMeet_13 : decode cX6_tearUpWhereTwoMeet 13 = .ok (.iload_n 1, 1) := by decide +kernel
theorem dX6_tearUpWhereTwoMeet_14 : decode cX6_tearUpWhereTwoMeet 14 = .ok (.invokevirtual 110, 3) := by decide +kernel
theorem dX6_tearUpWhereTwoMeet_17 : decode cX6_tearUpWhereTwoMeet 17 = .ok (.ifCond .eq 52, 3) := by decide +kernel
theorem dX6_tearUpWhereTwoMeet_20 : decode cX6_tearUpWhereTwoMeet 20 = .ok (.aload_n 0, 1) := by decide +kernel
theorem dX6_tearUpWhereTwoMeet_21 : decode cX6_tearUpWhereTwoMeet 21 = .ok (.getfield 35, 3) := by decide +kernel
theorem dX6_tearUpWhereTwoMeet_24 : decode cX6_tearUpWhereTwoMeet 24 = .ok (.iconst 3, 1) := by decide +kernel
theorem dX6_tearUpWhereTwoMeet_25 : decode cX6_tearUpWhereTwoMeet 25 = .ok (.aload_n 0, 1) := by decide +kernel
theorem dX6_tearUpWhereTwoMeet_26 : decode cX6_tearUpWhereTwoMeet 26 = .ok (.getfield 28, 3) := by decide +kernel
theorem dX6_tearUpWhereTwoMeet_29 : decode cX6_tearUpWhereTwoMeet 29 = .ok (.getfield 93, 3) := by decide +kernel
theorem dX6_tearUpWhereTwoMeet_32 : decode cX6_tearUpWhereTwoMeet 32 = .ok (.iload_n 1, 1) := by decide +kernel
theorem dX6_tearUpWhereTwoMeet_33 : decode cX6_tearUpWhereTwoMeet 33 = .ok (.invokestatic 96, 3) := by decide +kernel
theorem dX6_tearUpWhereTwoMeet_36 : decode cX6_tearUpWhereTwoMeet 36 = .ok (.aload_n 0, 1) := by decide +kernel
theorem dX6_tearUpWhereTwoMeet_37 : decode cX6_tearUpWhereTwoMeet 37 = .ok (.getfield 28, 3) := by decide +kernel
theorem dX6_tearUpWhereTwoMeet_40 : decode cX6_tearUpWhereTwoMeet 40 = .ok (.getfield 100, 3) := by decide +kernel
theorem dX6_tearUpWhereTwoMeet_43 : decode cX6_tearUpWhereTwoMeet 43 = .ok (.iload_n 1, 1) := by decide +kernel
theorem dX6_tearUpWhereTwoMeet_44 : decode cX6_tearUpWhereTwoMeet 44 = .ok (.invokestatic 96, 3) := by decide +kernel
theorem dX6_tearUpWhereTwoMeet_47 : decode cX6_tearUpWhereTwoMeet 47 = .ok (.invokevirtual 85, 3) := by decide +kernel
theorem dX6_tearUpWhereTwoMeet_50 : decode cX6_tearUpWhereTwoMeet 50 = .ok (.aload_n 0, 1) := by decide +kernel
theorem dX6_tearUpWhereTwoMeet_51 : decode cX6_tearUpWhereTwoMeet 51 = .ok (.getfield 15, 3) := by decide +kernel
theorem dX6_tearUpWhereTwoMeet_54 : decode cX6_tearUpWhereTwoMeet 54 = .ok (.iconst 5, 1) := by decide +kernel
theorem dX6_tearUpWhereTwoMeet_55 : decode cX6_tearUpWhereTwoMeet 55 = .ok (.invokestatic 103, 3) := by decide +kernel
theorem dX6_tearUpWhereTwoMeet_58 : decode cX6_tearUpWhereTwoMeet 58 = .ok (.aload_n 0, 1) := by decide +kernel
theorem dX6_tearUpWhereTwoMeet_59 : decode cX6_tearUpWhereTwoMeet 59 = .ok (.getfield 28, 3) := by decide +kernel
theorem dX6_tearUpWhereTwoMeet_62 : decode cX6_tearUpWhereTwoMeet 62 = .ok (.iload_n 1, 1) := by decide +kernel
theorem dX6_tearUpWhereTwoMeet_63 : decode cX6_tearUpWhereTwoMeet 63 = .ok (.invokevirtual 107, 3) := by decide +kernel
theorem dX6_tearUpWhereTwoMeet_66 : decode cX6_tearUpWhereTwoMeet 66 = .ok (.goto 6, 3) := by decide +kernel
theorem dX6_tearUpWhereTwoMeet_69 : decode cX6_tearUpWhereTwoMeet 69 = .ok (.iinc 1 1, 3) := by decide +kernel
theorem dX6_tearUpWhereTwoMeet_72 : decode cX6_tearUpWhereTwoMeet 72 = .ok (.iinc 2 1, 3) := by decide +kernel
theorem dX6_tearUpWhereTwoMeet_75 : decode cX6_tearUpWhereTwoMeet 75 = .ok (.goto (-71), 3) := by decide +kernel
theorem dX6_tearUpWhereTwoMeet_78 : decode cX6_tearUpWhereTwoMeet 78 = .ok (.return_, 1) := by decide +kernel
theorem dX6_passMinute_0 : decode cX6_passMinute 0 = .ok (.aload_n 0, 1) := by decide +kernel
theorem dX6_passMinute_1 : decode cX6_passMinute 1 = .ok (.dup, 1) := by decide +kernel
theorem dX6_passMinute_2 : decode cX6_passMinute 2 = .ok (.getfield 53, 3) := by decide +kernel
theorem dX6_passMinute_5 : decode cX6_passMinute 5 = .ok (.iconst 1, 1) := by decide +kernel
theorem dX6_passMinute_6 : decode cX6_passMinute 6 = .ok (.iadd, 1) := by decide +kernel
theorem dX6_passMinute_7 : decode cX6_passMinute 7 = .ok (.putfield 53, 3) := by decide +kernel
theorem dX6_passMinute_10 : decode cX6_passMinute 10 = .ok (.aload_n 0, 1) := by decide +kernel
theorem dX6_passMinute_11 : decode cX6_passMinute 11 = .ok (.getfield 53, 3) := by decide +kernel
theorem dX6_passMinute_14 : decode cX6_passMinute 14 = .ok (.bipush 60, 2) := by decide +kernel
theorem dX6_passMinute_16 : decode cX6_passMinute 16 = .ok (.irem, 1) := by decide +kernel
theorem dX6_passMinute_17 : decode cX6_passMinute 17 = .ok (.ifCond .ne 10, 3) := by decide +kernel
theorem dX6_passMinute_20 : decode cX6_passMinute 20 = .ok (.aload_n 0, 1) := by decide +kernel
theorem dX6_passMinute_21 : decode cX6_passMinute 21 = .ok (.getfield 21, 3) := by decide +kernel
theorem dX6_passMinute_24 : decode cX6_passMinute 24 = .ok (.invokevirtual 114, 3) := by decide +kernel
theorem dX6_passMinute_27 : decode cX6_passMinute 27 = .ok (.iconst 0, 1) := by decide +kernel
theorem dX6_passMinute_28 : decode cX6_passMinute 28 = .ok (.istore_n 1, 1) := by decide +kernel
theorem dX6_passMinute_29 : decode cX6_passMinute 29 = .ok (.iload_n 1, 1) := by decide +kernel
theorem dX6_passMinute_30 : decode cX6_passMinute 30 = .ok (.aload_n 0, 1) := by decide +kernel
theorem dX6_passMinute_31 : decode cX6_passMinute 31 = .ok (.getfield 28, 3) := by decide +kernel
theorem dX6_passMinute_34 : decode cX6_passMinute 34 = .ok (.getfield 74, 3) := by decide +kernel
theorem dX6_passMinute_37 : decode cX6_passMinute 37 = .ok (.if_icmp .ge 58, 3) := by decide +kernel
theorem dX6_passMinute_40 : decode cX6_passMinute 40 = .ok (.aload_n 0, 1) := by decide +kernel
theorem dX6_passMinute_41 : decode cX6_passMinute 41 = .ok (.getfield 28, 3) := by decide +kernel
theorem dX6_passMinute_44 : decode cX6_passMinute 44 = .ok (.getfield 117, 3) := by decide +kernel
theorem dX6_passMinute_47 : decode cX6_passMinute 47 = .ok (.iload_n 1, 1) := by decide +kernel
theorem dX6_passMinute_48 : decode cX6_passMinute 48 = .ok (.invokestatic 96, 3) := by decide +kernel
theorem dX6_passMinute_51 : decode cX6_passMinute 51 = .ok (.ifCond .le 11, 3) := by decide +kernel
theorem dX6_passMinute_54 : decode cX6_passMinute 54 = .ok (.aload_n 0, 1) := by decide +kernel
theorem dX6_passMinute_55 : decode cX6_passMinute 55 = .ok (.iload_n 1, 1) := by decide +kernel
theorem dX6_passMinute_56 : decode cX6_passMinute 56 = .ok (.invokevirtual 120, 3) := by decide +kernel
theorem dX6_passMinute_59 : decode cX6_passMinute 59 = .ok (.goto 30, 3) := by decide +kernel
theorem dX6_passMinute_62 : decode cX6_passMinute 62 = .ok (.aload_n 0, 1) := by decide +kernel
theorem dX6_passMinute_63 : decode cX6_passMinute 63 = .ok (.getfield 28, 3) := by decide +kernel
theorem dX6_passMinute_66 : decode cX6_passMinute 66 = .ok (.getfield 123, 3) := by decide +kernel
theorem dX6_passMinute_69 : decode cX6_passMinute 69 = .ok (.iload_n 1, 1) := by decide +kernel
theorem dX6_passMinute_70 : decode cX6_passMinute 70 = .ok (.invokestatic 96, 3) := by decide +kernel
theorem dX6_passMinute_73 : decode cX6_passMinute 73 = .ok (.ifCond .le 11, 3) := by decide +kernel
theorem dX6_passMinute_76 : decode cX6_passMinute 76 = .ok (.aload_n 0, 1) := by decide +kernel
theorem dX6_passMinute_77 : decode cX6_passMinute 77 = .ok (.iload_n 1, 1) := by decide +kernel
theorem dX6_passMinute_78 : decode cX6_passMinute 78 = .ok (.invokevirtual 126, 3) := by decide +kernel
theorem dX6_passMinute_81 : decode cX6_passMinute 81 = .ok (.goto 8, 3) := by decide +kernel
theorem dX6_passMinute_84 : decode cX6_passMinute 84 = .ok (.aload_n 0, 1) := by decide +kernel
theorem dX6_passMinute_85 : decode cX6_passMinute 85 = .ok (.iload_n 1, 1) := by decide +kernel
theorem dX6_passMinute_86 : decode cX6_passMinute 86 = .ok (.invokevirtual 129, 3) := by decide +kernel
theorem dX6_passMinute_89 : decode cX6_passMinute 89 = .ok (.iinc 1 1, 3) := by decide +kernel
theorem dX6_passMinute_92 : decode cX6_passMinute 92 = .ok (.goto (-63), 3) := by decide +kernel
theorem dX6_passMinute_95 : decode cX6_passMinute 95 = .ok (.aload_n 0, 1) := by decide +kernel
theorem dX6_passMinute_96 : decode cX6_passMinute 96 = .ok (.invokevirtual 132, 3) := by decide +kernel
theorem dX6_passMinute_99 : decode cX6_passMinute 99 = .ok (.aload_n 0, 1) := by decide +kernel
theorem dX6_passMinute_100 : decode cX6_passMinute 100 = .ok (.getfield 28, 3) := by decide +kernel
theorem dX6_passMinute_103 : decode cX6_passMinute 103 = .ok (.invokevirtual 135, 3) := by decide +kernel
theorem dX6_passMinute_106 : decode cX6_passMinute 106 = .ok (.iconst 2, 1) := by decide +kernel
theorem dX6_passMinute_107 : decode cX6_passMinute 107 = .ok (.if_icmp .lt 12, 3) := by decide +kernel
theorem dX6_passMinute_110 : decode cX6_passMinute 110 = .ok (.aload_n 0, 1) := by decide +kernel
theorem dX6_passMinute_111 : decode cX6_passMinute 111 = .ok (.getfield 15, 3) := by decide +kernel
theorem dX6_passMinute_114 : decode cX6_passMinute 114 = .ok (.bipush 7, 2) := by decide +kernel
theorem dX6_passMinute_116 : decode cX6_passMinute 116 = .ok (.invokestatic 103, 3) := by decide +kernel
theorem dX6_passMinute_119 : decode cX6_passMinute 119 = .ok (.aload_n 0, 1) := by decide +kernel
theorem dX6_passMinute_120 : decode cX6_passMinute 120 = .ok (.getfield 28, 3) := by decide +kernel
theorem dX6_passMinute_123 : decode cX6_passMinute 123 = .ok (.getfield 74, 3) := by decide +kernel
theorem dX6_passMinute_126 : decode cX6_passMinute 126 = .ok (.ifCond .le 11, 3) := by decide +kernel
theorem dX6_passMinute_129 : decode cX6_passMinute 129 = .ok (.aload_n 0, 1) := by decide +kernel
theorem dX6_passMinute_130 : decode cX6_passMinute 130 = .ok (.iconst 0, 1) := by decide +kernel
theorem dX6_passMinute_131 : decode cX6_passMinute 131 = .ok (.putfield 57, 3) := by decide +kernel
theorem dX6_passMinute_134 : decode cX6_passMinute 134 = .ok (.goto 7, 3) := by decide +kernel
theorem dX6_passMinute_137 : decode cX6_passMinute 137 = .ok (.aload_n 0, 1) := by decide +kernel
theorem dX6_passMinute_138 : decode cX6_passMinute 138 = .ok (.invokevirtual 139, 3) := by decide +kernel
theorem dX6_passMinute_141 : decode cX6_passMinute 141 = .ok (.return_, 1) := by decide +kernel
theorem dX6_comeNearer_0 : decode cX6_comeNearer 0 = .ok (.aload_n 0, 1) := by decide +kernel
theorem dX6_comeNearer_1 : decode cX6_comeNearer 1 = .ok (.getfield 28, 3) := by decide +kernel
theorem dX6_comeNearer_4 : decode cX6_comeNearer 4 = .ok (.getfield 117, 3) := by decide +kernel
theorem dX6_comeNearer_7 : decode cX6_comeNearer 7 = .ok (.iload_n 1, 1) := by decide +kernel
theorem dX6_comeNearer_8 : decode cX6_comeNearer 8 = .ok (.invokestatic 96, 3) := by decide +kernel
theorem dX6_comeNearer_11 : decode cX6_comeNearer 11 = .ok (.iconst 1, 1) := by decide +kernel
theorem dX6_comeNearer_12 : decode cX6_comeNearer 12 = .ok (.isub, 1) := by decide +kernel
theorem dX6_comeNearer_13 : decode cX6_comeNearer 13 = .ok (.istore_n 2, 1) := by decide +kernel
theorem dX6_comeNearer_14 : decode cX6_comeNearer 14 = .ok (.aload_n 0, 1) := by decide +kernel
theorem dX6_comeNearer_15 : decode cX6_comeNearer 15 = .ok (.getfield 28, 3) := by decide +kernel
theorem dX6_comeNearer_18 : decode cX6_comeNearer 18 = .ok (.getfield 117, 3) := by decide +kernel
theorem dX6_comeNearer_21 : decode cX6_comeNearer 21 = .ok (.iload_n 1, 1) := by decide +kernel
theorem dX6_comeNearer_22 : decode cX6_comeNearer 22 = .ok (.iload_n 2, 1) := by decide +kernel
theorem dX6_comeNearer_23 : decode cX6_comeNearer 23 = .ok (.invokestatic 60, 3) := by decide +kernel
theorem dX6_comeNearer_26 : decode cX6_comeNearer 26 = .ok (.aload_n 0, 1) := by decide +kernel
theorem dX6_comeNearer_27 : decode cX6_comeNearer 27 = .ok (.getfield 28, 3) := by decide +kernel
theorem dX6_comeNearer_30 : decode cX6_comeNearer 30 = .ok (.getfield 100, 3) := by decide +kernel
theorem dX6_comeNearer_33 : decode cX6_comeNearer 33 = .ok (.iload_n 1, 1) := by decide +kernel
theorem dX6_comeNearer_34 : decode cX6_comeNearer 34 = .ok (.invokestatic 96, 3) := by decide +kernel
theorem dX6_comeNearer_37 : decode cX6_comeNearer 37 = .ok (.istore_n 3, 1) := by decide +kernel
theorem dX6_comeNearer_38 : decode cX6_comeNearer 38 = .ok (.iload_n 2, 1) := by decide +kernel
theorem dX6_comeNearer_39 : decode cX6_comeNearer 39 = .ok (.ifCond .ne 20, 3) := by decide +kernel
theorem dX6_comeNearer_42 : decode cX6_comeNearer 42 = .ok (.aload_n 0, 1) := by decide +kernel
theorem dX6_comeNearer_43 : decode cX6_comeNearer 43 = .ok (.getfield 21, 3) := by decide +kernel
theorem dX6_comeNearer_46 : decode cX6_comeNearer 46 = .ok (.iload_n 3, 1) := by decide +kernel
theorem dX6_comeNearer_47 : decode cX6_comeNearer 47 = .ok (.invokevirtual 142, 3) := by decide +kernel
theorem dX6_comeNearer_50 : decode cX6_comeNearer 50 = .ok (.ifCond .ne 9, 3) := by decide +kernel
theorem dX6_comeNearer_53 : decode cX6_comeNearer 53 = .ok (.aload_n 0, 1) := by decide +kernel
theorem dX6_comeNearer_54 : decode cX6_comeNearer 54 = .ok (.iload_n 1, 1) := by decide +kernel
theorem dX6_comeNearer_55 : decode cX6_comeNearer 55 = .ok (.iload_n 3, 1) := by decide +kernel
theorem dX6_comeNearer_56 : decode cX6_comeNearer 56 = .ok (.invokevirtual 145, 3) := by decide +kernel
theorem dX6_comeNearer_59 : decode cX6_comeNearer 59 = .ok (.return_, 1) := by decide +kernel
theorem dX6_leave_0 : decode cX6_leave 0 = .ok (.aload_n 0, 1) := by decide +kernel
theorem dX6_leave_1 : decode cX6_leave 1 = .ok (.getfield 28, 3) := by decide +kernel
theorem dX6_leave_4 : decode cX6_leave 4 = .ok (.iload_n 1, 1) := by decide +kernel
theorem dX6_leave_5 : decode cX6_leave 5 = .ok (.aload_n 0, 1) := by decide +kernel
theorem dX6_leave_6 : decode cX6_leave 6 = .ok (.getfield 21, 3) := by decide +kernel
theorem dX6_leave_9 : decode cX6_leave 9 = .ok (.iload_n 2, 1) := by decide +kernel
theorem dX6_leave_10 : decode cX6_leave 10 = .ok (.invokevirtual 149, 3) := by decide +kernel
theorem dX6_leave_13 : decode cX6_leave 13 = .ok (.aload_n 0, 1) := by decide +kernel
theorem dX6_leave_14 : decode cX6_leave 14 = .ok (.getfield 21, 3) := by decide +kernel
theorem dX6_leave_17 : decode cX6_leave 17 = .ok (.getfield 152, 3) := by decide +kernel
theorem dX6_leave_20 : decode cX6_leave 20 = .ok (.iload_n 2, 1) := by decide +kernel
theorem dX6_leave_21 : decode cX6_leave 21 = .ok (.invokestatic 96, 3) := by decide +kernel
theorem dX6_leave_24 : decode cX6_leave 24 = .ok (.invokevirtual 155, 3) := by decide +kernel
theorem dX6_leave_27 : decode cX6_leave 27 = .ok (.return_, 1) := by decide +kernel
theorem dX6_readOn_0 : decode cX6_readOn 0 = .ok (.aload_n 0, 1) := by decide +kernel
theorem dX6_readOn_1 : decode cX6_readOn 1 = .ok (.getfield 28, 3) := by decide +kernel
theorem dX6_readOn_4 : decode cX6_readOn 4 = .ok (.getfield 100, 3) := by decide +kernel
theorem dX6_readOn_7 : decode cX6_readOn 7 = .ok (.iload_n 1, 1) := by decide +kernel
theorem dX6_readOn_8 : decode cX6_readOn 8 = .ok (.invokestatic 96, 3) := by decide +kernel
theorem dX6_readOn_11 : decode cX6_readOn 11 = .ok (.istore_n 2, 1) := by decide +kernel
theorem dX6_readOn_12 : decode cX6_readOn 12 = .ok (.aload_n 0, 1) := by decide +kernel
theorem dX6_readOn_13 : decode cX6_readOn 13 = .ok (.getfield 28, 3) := by decide +kernel
theorem dX6_readOn_16 : decode cX6_readOn 16 = .ok (.getfield 123, 3) := by decide +kernel
theorem dX6_readOn_19 : decode cX6_readOn 19 = .ok (.iload_n 1, 1) := by decide +kernel
theorem dX6_readOn_20 : decode cX6_readOn 20 = .ok (.invokestatic 96, 3) := by decide +kernel
theorem dX6_readOn_23 : decode cX6_readOn 23 = .ok (.iconst 1, 1) := by decide +kernel
theorem dX6_readOn_24 : decode cX6_readOn 24 = .ok (.isub, 1) := by decide +kernel
theorem dX6_readOn_25 : decode cX6_readOn 25 = .ok (.istore_n 3, 1) := by decide +kernel
theorem dX6_readOn_26 : decode cX6_readOn 26 = .ok (.aload_n 0, 1) := by decide +kernel
theorem dX6_readOn_27 : decode cX6_readOn 27 = .ok (.getfield 28, 3) := by decide +kernel
theorem dX6_readOn_30 : decode cX6_readOn 30 = .ok (.getfield 123, 3) := by decide +kernel
theorem dX6_readOn_33 : decode cX6_readOn 33 = .ok (.iload_n 1, 1) := by decide +kernel
theorem dX6_readOn_34 : decode cX6_readOn 34 = .ok (.iload_n 3, 1) := by decide +kernel
theorem dX6_readOn_35 : decode cX6_readOn 35 = .ok (.invokestatic 60, 3) := by decide +kernel
theorem dX6_readOn_38 : decode cX6_readOn 38 = .ok (.aload_n 0, 1) := by decide +kernel
theorem dX6_readOn_39 : decode cX6_readOn 39 = .ok (.getfield 28, 3) := by decide +kernel
theorem dX6_readOn_42 : decode cX6_readOn 42 = .ok (.getfield 158, 3) := by decide +kernel
theorem dX6_readOn_45 : decode cX6_readOn 45 = .ok (.iload_n 1, 1) := by decide +kernel
theorem dX6_readOn_46 : decode cX6_readOn 46 = .ok (.invokestatic 103, 3) := by decide +kernel
theorem dX6_readOn_49 : decode cX6_readOn 49 = .ok (.aload_n 0, 1) := by decide +kernel
theorem dX6_readOn_50 : decode cX6_readOn 50 = .ok (.getfield 21, 3) := by decide +kernel
theorem dX6_readOn_53 : decode cX6_readOn 53 = .ok (.getfield 161, 3) := by decide +kernel
theorem dX6_readOn_56 : decode cX6_readOn 56 = .ok (.iload_n 2, 1) := by decide +kernel
theorem dX6_readOn_57 : decode cX6_readOn 57 = .ok (.invokestatic 103, 3) := by decide +kernel
theorem dX6_readOn_60 : decode cX6_readOn 60 = .ok (.aload_n 0, 1) := by decide +kernel
theorem dX6_readOn_61 : decode cX6_readOn 61 = .ok (.getfield 15, 3) := by decide +kernel
theorem dX6_readOn_64 : decode cX6_readOn 64 = .ok (.bipush 8, 2) := by decide +kernel
theorem dX6_readOn_66 : decode cX6_readOn 66 = .ok (.invokestatic 103, 3) := by decide +kernel
theorem dX6_readOn_69 : decode cX6_readOn 69 = .ok (.iload_n 3, 1) := by decide +kernel
theorem dX6_readOn_70 : decode cX6_readOn 70 = .ok (.ifCond .ne 8, 3) := by decide +kernel
theorem dX6_readOn_73 : decode cX6_readOn 73 = .ok (.aload_n 0, 1) := by decide +kernel
theorem dX6_readOn_74 : decode cX6_readOn 74 = .ok (.iload_n 2, 1) := by decide +kernel
theorem dX6_readOn_75 : decode cX6_readOn 75 = .ok (.invokevirtual 164, 3) := by decide +kernel
theorem dX6_readOn_78 : decode cX6_readOn 78 = .ok (.return_, 1) := by decide +kernel
theorem dX6_endLetter_0 : decode cX6_endLetter 0 = .ok (.aload_n 0, 1) := by decide +kernel
theorem dX6_endLetter_1 : decode cX6_endLetter 1 = .ok (.getfield 21, 3) := by decide +kernel
theorem dX6_endLetter_4 : decode cX6_endLetter 4 = .ok (.iload_n 1, 1) := by decide +kernel
theorem dX6_endLetter_5 : decode cX6_endLetter 5 = .ok (.iconst 0, 1) := by decide +kernel
theorem dX6_endLetter_6 : decode cX6_endLetter 6 = .ok (.invokevirtual 167, 3) := by decide +kernel
theorem dX6_endLetter_9 : decode cX6_endLetter 9 = .ok (.istore_n 2, 1) := by decide +kernel
theorem dX6_endLetter_10 : decode cX6_endLetter 10 = .ok (.aload_n 0, 1) := by decide +kernel
theorem dX6_endLetter_11 : decode cX6_endLetter 11 = .ok (.getfield 21, 3) := by decide +kernel
theorem dX6_endLetter_14 : decode cX6_endLetter 14 = .ok (.iload_n 1, 1) := by decide +kernel
theorem dX6_endLetter_15 : decode cX6_endLetter 15 = .ok (.iconst 0, 1) := by decide +kernel
theorem dX6_endLetter_16 : decode cX6_endLetter 16 = .ok (.invokevirtual 171, 3) := by decide +kernel
theorem dX6_endLetter_19 : decode cX6_endLetter 19 = .ok (.istore_n 3, 1) := by decide +kernel
theorem dX6_endLetter_20 : decode cX6_endLetter 20 = .ok (.aload_n 0, 1) := by decide +kernel
theorem dX6_endLetter_21 : decode cX6_endLetter 21 = .ok (.getfield 21, 3) := by decide +kernel
theorem dX6_endLetter_24 : decode cX6_endLetter 24 = .ok (.iload_n 2, 1) := by decide +kernel
theorem dX6_endLetter_25 : decode cX6_endLetter 25 = .ok (.invokevirtual 142, 3) := by decide +kernel
theorem dX6_endLetter_28 : decode cX6_endLetter 28 = .ok (.ifCond .eq 40, 3) := by decide +kernel
theorem dX6_endLetter_31 : decode cX6_endLetter 31 = .ok (.aload_n 0, 1) := by decide +kernel
theorem dX6_endLetter_32 : decode cX6_endLetter 32 = .ok (.getfield 15, 3) := by decide +kernel
theorem dX6_endLetter_35 : decode cX6_endLetter 35 = .ok (.iconst 1, 1) := by decide +kernel
theorem dX6_endLetter_36 : decode cX6_endLetter 36 = .ok (.invokestatic 103, 3) := by decide +kernel
theorem dX6_endLetter_39 : decode cX6_endLetter 39 = .ok (.aload_n 0, 1) := by decide +kernel
theorem dX6_endLetter_40 : decode cX6_endLetter 40 = .ok (.getfield 21, 3) := by decide +kernel
theorem dX6_endLetter_43 : decode cX6_endLetter 43 = .ok (.getfield 174, 3) := by decide +kernel
theorem dX6_endLetter_46 : decode cX6_endLetter 46 = .ok (.iload_n 2, 1) := by decide +kernel
theorem dX6_endLetter_47 : decode cX6_endLetter 47 = .ok (.invokestatic 103, 3) := by decide +kernel
theorem dX6_endLetter_50 : decode cX6_endLetter 50 = .ok (.aload_n 0, 1) := by decide +kernel
theorem dX6_endLetter_51 : decode cX6_endLetter 51 = .ok (.getfield 35, 3) := by decide +kernel
theorem dX6_endLetter_54 : decode cX6_endLetter 54 = .ok (.iconst 1, 1) := by decide +kernel
theorem dX6_endLetter_55 : decode cX6_endLetter 55 = .ok (.bipush 100, 2) := by decide +kernel
theorem dX6_endLetter_57 : decode cX6_endLetter 57 = .ok (.iload_n 1, 1) := by decide +kernel
theorem dX6_endLetter_58 : decode cX6_endLetter 58 = .ok (.imul, 1) := by decide +kernel
theorem dX6_endLetter_59 : decode cX6_endLetter 59 = .ok (.iload_n 2, 1) := by decide +kernel
theorem dX6_endLetter_60 : decode cX6_endLetter 60 = .ok (.iadd, 1) := by decide +kernel
theorem dX6_endLetter_61 : decode cX6_endLetter 61 = .ok (.iload_n 3, 1) := by decide +kernel
theorem dX6_endLetter_62 : decode cX6_endLetter 62 = .ok (.invokevirtual 85, 3) := by decide +kernel
theorem dX6_endLetter_65 : decode cX6_endLetter 65 = .ok (.goto 26, 3) := by decide +kernel
theorem dX6_endLetter_68 : decode cX6_endLetter 68 = .ok (.aload_n 0, 1) := by decide +kernel
theorem dX6_endLetter_69 : decode cX6_endLetter 69 = .ok (.getfield 15, 3) := by decide +kernel
theorem dX6_endLetter_72 : decode cX6_endLetter 72 = .ok (.iconst 2, 1) := by decide +kernel
theorem dX6_endLetter_73 : decode cX6_endLetter 73 = .ok (.invokestatic 103, 3) := by decide +kernel
theorem dX6_endLetter_76 : decode cX6_endLetter 76 = .ok (.aload_n 0, 1) := by decide +kernel
theorem dX6_endLetter_77 : decode cX6_endLetter 77 = .ok (.getfield 35, 3) := by decide +kernel
theorem dX6_endLetter_80 : decode cX6_endLetter 80 = .ok (.iconst 2, 1) := by decide +kernel
theorem dX6_endLetter_81 : decode cX6_endLetter 81 = .ok (.bipush 100, 2) := by decide +kernel
theorem dX6_endLetter_83 : decode cX6_endLetter 83 = .ok (.iload_n 1, 1) := by decide +kernel
theorem dX6_endLetter_84 : decode cX6_endLetter 84 = .ok (.imul, 1) := by decide +kernel
theorem dX6_endLetter_85 : decode cX6_endLetter 85 = .ok (.iload_n 2, 1) := by decide +kernel
theorem dX6_endLetter_86 : decode cX6_endLetter 86 = .ok (.iadd, 1) := by decide +kernel
theorem dX6_endLetter_87 : decode cX6_endLetter 87 = .ok (.iload_n 3, 1) := by decide +kernel
theorem dX6_endLetter_88 : decode cX6_endLetter 88 = .ok (.invokevirtual 85, 3) := by decide +kernel
theorem dX6_endLetter_91 : decode cX6_endLetter 91 = .ok (.aload_n 0, 1) := by decide +kernel
theorem dX6_endLetter_92 : decode cX6_endLetter 92 = .ok (.getfield 21, 3) := by decide +kernel
theorem dX6_endLetter_95 : decode cX6_endLetter 95 = .ok (.iload_n 1, 1) := by decide +kernel
theorem dX6_endLetter_96 : decode cX6_endLetter 96 = .ok (.iconst 0, 1) := by decide +kernel
theorem dX6_endLetter_97 : decode cX6_endLetter 97 = .ok (.invokevirtual 177, 3) := by decide +kernel
theorem dX6_endLetter_100 : decode cX6_endLetter 100 = .ok (.return_, 1) := by decide +kernel
theorem dX6_beginOrSetOut_0 : decode cX6_beginOrSetOut 0 = .ok (.aload_n 0, 1) := by decide +kernel
theorem dX6_beginOrSetOut_1 : decode cX6_beginOrSetOut 1 = .ok (.getfield 28, 3) := by decide +kernel
theorem dX6_beginOrSetOut_4 : decode cX6_beginOrSetOut 4 = .ok (.getfield 100, 3) := by decide +kernel
theorem dX6_beginOrSetOut_7 : decode cX6_beginOrSetOut 7 = .ok (.iload_n 1, 1) := by decide +kernel
theorem dX6_beginOrSetOut_8 : decode cX6_beginOrSetOut 8 = .ok (.invokestatic 96, 3) := by decide +kernel
theorem dX6_beginOrSetOut_11 : decode cX6_beginOrSetOut 11 = .ok (.istore_n 2, 1) := by decide +kernel
theorem dX6_beginOrSetOut_12 : decode cX6_beginOrSetOut 12 = .ok (.aload_n 0, 1) := by decide +kernel
theorem dX6_beginOrSetOut_13 : decode cX6_beginOrSetOut 13 = .ok (.getfield 21, 3) := by decide +kernel
theorem dX6_beginOrSetOut_16 : decode cX6_beginOrSetOut 16 = .ok (.iload_n 2, 1) := by decide +kernel
theorem dX6_beginOrSetOut_17 : decode cX6_beginOrSetOut 17 = .ok (.invokevirtual 142, 3) := by decide +kernel
theorem dX6_beginOrSetOut_20 : decode cX6_beginOrSetOut 20 = .ok (.ifCond .eq 21, 3) := by decide +kernel
theorem dX6_beginOrSetOut_23 : decode cX6_beginOrSetOut 23 = .ok (.aload_n 0, 1) := by decide +kernel
theorem dX6_beginOrSetOut_24 : decode cX6_beginOrSetOut 24 = .ok (.getfield 21, 3) := by decide +kernel
theorem dX6_beginOrSetOut_27 : decode cX6_beginOrSetOut 27 = .ok (.getfield 180, 3) := by decide +kernel
theorem dX6_beginOrSetOut_30 : decode cX6_beginOrSetOut 30 = .ok (.iload_n 2, 1) := by decide +kernel
theorem dX6_beginOrSetOut_31 : decode cX6_beginOrSetOut 31 = .ok (.invokestatic 96, 3) := by decide +kernel
theorem dX6_beginOrSetOut_34 : decode cX6_beginOrSetOut 34 = .ok (.ifCond .le 7, 3) := by decide +kernel
theorem dX6_beginOrSetOut_37 : decode cX6_beginOrSetOut 37 = .ok (.iconst 1, 1) := by decide +kernel
theorem dX6_beginOrSetOut_38 : decode cX6_beginOrSetOut 38 = .ok (.goto 4, 3) := by decide +kernel
theorem dX6_beginOrSetOut_41 : decode cX6_beginOrSetOut 41 = .ok (.iconst 0, 1) := by decide +kernel
theorem dX6_beginOrSetOut_42 : decode cX6_beginOrSetOut 42 = .ok (.istore_n 3, 1) := by decide +kernel
theorem dX6_beginOrSetOut_43 : decode cX6_beginOrSetOut 43 = .ok (.iload_n 3, 1) := by decide +kernel
theorem dX6_beginOrSetOut_44 : decode cX6_beginOrSetOut 44 = .ok (.ifCond .eq 43, 3) := by decide +kernel
theorem dX6_beginOrSetOut_47 : decode cX6_beginOrSetOut 47 = .ok (.aload_n 0, 1) := by decide +kernel
theorem dX6_beginOrSetOut_48 : decode cX6_beginOrSetOut 48 = .ok (.iload_n 2, 1) := by decide +kernel
theorem dX6_beginOrSetOut_49 : decode cX6_beginOrSetOut 49 = .ok (.iload_n 1, 1) := by decide +kernel
theorem dX6_beginOrSetOut_50 : decode cX6_beginOrSetOut 50 = .ok (.invokevirtual 183, 3) := by decide +kernel
theorem dX6_beginOrSetOut_53 : decode cX6_beginOrSetOut 53 = .ok (.ifCond .eq 34, 3) := by decide +kernel
theorem dX6_beginOrSetOut_56 : decode cX6_beginOrSetOut 56 = .ok (.aload_n 0, 1) := by decide +kernel
theorem dX6_beginOrSetOut_57 : decode cX6_beginOrSetOut 57 = .ok (.iload_n 2, 1) := by decide +kernel
theorem dX6_beginOrSetOut_58 : decode cX6_beginOrSetOut 58 = .ok (.invokevirtual 187, 3) := by decide +kernel
theorem dX6_beginOrSetOut_61 : decode cX6_beginOrSetOut 61 = .ok (.ifCond .eq 26, 3) := by decide +kernel
theorem dX6_beginOrSetOut_64 : decode cX6_beginOrSetOut 64 = .ok (.aload_n 0, 1) := by decide +kernel
theorem dX6_beginOrSetOut_65 : decode cX6_beginOrSetOut 65 = .ok (.getfield 28, 3) := by decide +kernel
theorem dX6_beginOrSetOut_68 : decode cX6_beginOrSetOut 68 = .ok (.getfield 123, 3) := by decide +kernel
theorem dX6_beginOrSetOut_71 : decode cX6_beginOrSetOut 71 = .ok (.iload_n 1, 1) := by decide +kernel
theorem dX6_beginOrSetOut_72 : decode cX6_beginOrSetOut 72 = .ok (.aload_n 0, 1) := by decide +kernel
theorem dX6_beginOrSetOut_73 : decode cX6_beginOrSetOut 73 = .ok (.getfield 21, 3) := by decide +kernel
theorem dX6_beginOrSetOut_76 : decode cX6_beginOrSetOut 76 = .ok (.iload_n 2, 1) := by decide +kernel
theorem dX6_beginOrSetOut_77 : decode cX6_beginOrSetOut 77 = .ok (.iconst 0, 1) := by decide +kernel
theorem dX6_beginOrSetOut_78 : decode cX6_beginOrSetOut 78 = .ok (.invokevirtual 171, 3) := by decide +kernel
theorem dX6_beginOrSetOut_81 : decode cX6_beginOrSetOut 81 = .ok (.invokestatic 60, 3) := by decide +kernel
theorem dX6_beginOrSetOut_84 : decode cX6_beginOrSetOut 84 = .ok (.goto 9, 3) := by decide +kernel
theorem dX6_beginOrSetOut_87 : decode cX6_beginOrSetOut 87 = .ok (.aload_n 0, 1) := by decide +kernel
theorem dX6_beginOrSetOut_88 : decode cX6_beginOrSetOut 88 = .ok (.iload_n 1, 1) := by decide +kernel
theorem dX6_beginOrSetOut_89 : decode cX6_beginOrSetOut 89 = .ok (.iload_n 2, 1) := by decide +kernel
theorem dX6_beginOrSetOut_90 : decode cX6_beginOrSetOut 90 = .ok (.invokevirtual 145, 3) := by decide +kernel
theorem dX6_beginOrSetOut_93 : decode cX6_beginOrSetOut 93 = .ok (.return_, 1) := by decide +kernel
theorem dX6_fitsInTurn_0 : decode cX6_fitsInTurn 0 = .ok (.aload_n 0, 1) := by decide +kernel
theorem dX6_fitsInTurn_1 : decode cX6_fitsInTurn 1 = .ok (.getfield 21, 3) := by decide +kernel
theorem dX6_fitsInTurn_4 : decode cX6_fitsInTurn 4 = .ok (.iload_n 1, 1) := by decide +kernel
theorem dX6_fitsInTurn_5 : decode cX6_fitsInTurn 5 = .ok (.iconst 0, 1) := by decide +kernel
theorem dX6_fitsInTurn_6 : decode cX6_fitsInTurn 6 = .ok (.invokevirtual 171, 3) := by decide +kernel
theorem dX6_fitsInTurn_9 : decode cX6_fitsInTurn 9 = .ok (.aload_n 0, 1) := by decide +kernel
theorem dX6_fitsInTurn_10 : decode cX6_fitsInTurn 10 = .ok (.getfield 9, 3) := by decide +kernel
theorem dX6_fitsInTurn_13 : decode cX6_fitsInTurn 13 = .ok (.iconst 0, 1) := by decide +kernel
theorem dX6_fitsInTurn_14 : decode cX6_fitsInTurn 14 = .ok (.invokestatic 96, 3) := by decide +kernel
theorem dX6_fitsInTurn_17 : decode cX6_fitsInTurn 17 = .ok (.aload_n 0, 1) := by decide +kernel
theorem dX6_fitsInTurn_18 : decode cX6_fitsInTurn 18 = .ok (.getfield 28, 3) := by decide +kernel
theorem dX6_fitsInTurn_21 : decode cX6_fitsInTurn 21 = .ok (.getfield 158, 3) := by decide +kernel
theorem dX6_fitsInTurn_24 : decode cX6_fitsInTurn 24 = .ok (.iload_n 2, 1) := by decide +kernel
theorem dX6_fitsInTurn_25 : decode cX6_fitsInTurn 25 = .ok (.invokestatic 96, 3) := by decide +kernel
theorem dX6_fitsInTurn_28 : decode cX6_fitsInTurn 28 = .ok (.isub, 1) := by decide +kernel
theorem dX6_fitsInTurn_29 : decode cX6_fitsInTurn 29 = .ok (.if_icmp .gt 7, 3) := by decide +kernel
theorem dX6_fitsInTurn_32 : decode cX6_fitsInTurn 32 = .ok (.iconst 1, 1) := by decide +kernel
theorem dX6_fitsInTurn_33 : decode cX6_fitsInTurn 33 = .ok (.goto 4, 3) := by decide +kernel
theorem dX6_fitsInTurn_36 : decode cX6_fitsInTurn 36 = .ok (.iconst 0, 1) := by decide +kernel
theorem dX6_fitsInTurn_37 : decode cX6_fitsInTurn 37 = .ok (.ireturn, 1) := by decide +kernel
theorem dX6_fitsInDay_0 : decode cX6_fitsInDay 0 = .ok (.aload_n 0, 1) := by decide +kernel
theorem dX6_fitsInDay_1 : decode cX6_fitsInDay 1 = .ok (.getfield 21, 3) := by decide +kernel
theorem dX6_fitsInDay_4 : decode cX6_fitsInDay 4 = .ok (.iload_n 1, 1) := by decide +kernel
theorem dX6_fitsInDay_5 : decode cX6_fitsInDay 5 = .ok (.iconst 0, 1) := by decide +kernel
theorem dX6_fitsInDay_6 : decode cX6_fitsInDay 6 = .ok (.invokevirtual 171, 3) := by decide +kernel
theorem dX6_fitsInDay_9 : decode cX6_fitsInDay 9 = .ok (.aload_n 0, 1) := by decide +kernel
theorem dX6_fitsInDay_10 : decode cX6_fitsInDay 10 = .ok (.getfield 9, 3) := by decide +kernel
theorem dX6_fitsInDay_13 : decode cX6_fitsInDay 13 = .ok (.iconst 2, 1) := by decide +kernel
theorem dX6_fitsInDay_14 : decode cX6_fitsInDay 14 = .ok (.invokestatic 96, 3) := by decide +kernel
theorem dX6_fitsInDay_17 : decode cX6_fitsInDay 17 = .ok (.aload_n 0, 1) := by decide +kernel
theorem dX6_fitsInDay_18 : decode cX6_fitsInDay 18 = .ok (.getfield 21, 3) := by decide +kernel
theorem dX6_fitsInDay_21 : decode cX6_fitsInDay 21 = .ok (.getfield 161, 3) := by decide +kernel
theorem dX6_fitsInDay_24 : decode cX6_fitsInDay 24 = .ok (.iload_n 1, 1) := by decide +kernel
theorem dX6_fitsInDay_25 : decode cX6_fitsInDay 25 = .ok (.invokestatic 96, 3) := by decide +kernel
theorem dX6_fitsInDay_28 : decode cX6_fitsInDay 28 = .ok (.isub, 1) := by decide +kernel
theorem dX6_fitsInDay_29 : decode cX6_fitsInDay 29 = .ok (.if_icmp .gt 7, 3) := by decide +kernel
theorem dX6_fitsInDay_32 : decode cX6_fitsInDay 32 = .ok (.iconst 1, 1) := by decide +kernel
theorem dX6_fitsInDay_33 : decode cX6_fitsInDay 33 = .ok (.goto 4, 3) := by decide +kernel
theorem dX6_fitsInDay_36 : decode cX6_fitsInDay 36 = .ok (.iconst 0, 1) := by decide +kernel
theorem dX6_fitsInDay_37 : decode cX6_fitsInDay 37 = .ok (.ireturn, 1) := by decide +kernel
theorem dX6_stayWithoutToken_0 : decode cX6_stayWithoutToken 0 = .ok (.aload_n 0, 1) := by decide +kernel
theorem dX6_stayWithoutToken_1 : decode cX6_stayWithoutToken 1 = .ok (.dup, 1) := by decide +kernel
theorem dX6_stayWithoutToken_2 : decode cX6_stayWithoutToken 2 = .ok (.getfield 57, 3) := by decide +kernel
theorem dX6_stayWithoutToken_5 : decode cX6_stayWithoutToken 5 = .ok (.iconst 1, 1) := by decide +kernel
theorem dX6_stayWithoutToken_6 : decode cX6_stayWithoutToken 6 = .ok (.iadd, 1) := by decide +kernel
theorem dX6_stayWithoutToken_7 : decode cX6_stayWithoutToken 7 = .ok (.putfield 57, 3) := by decide +kernel
theorem dX6_stayWithoutToken_10 : decode cX6_stayWithoutToken 10 = .ok (.aload_n 0, 1) := by decide +kernel
theorem dX6_stayWithoutToken_11 : decode cX6_stayWithoutToken 11 = .ok (.getfield 21, 3) := by decide +kernel
theorem dX6_stayWithoutToken_14 : decode cX6_stayWithoutToken 14 = .ok (.invokevirtual 190, 3) := by decide +kernel
theorem dX6_stayWithoutToken_17 : decode cX6_stayWithoutToken 17 = .ok (.istore_n 1, 1) := by decide +kernel
theorem dX6_stayWithoutToken_18 : decode cX6_stayWithoutToken 18 = .ok (.aload_n 0, 1) := by decide +kernel
theorem dX6_stayWithoutToken_19 : decode cX6_stayWithoutToken 19 = .ok (.getfield 57, 3) := by decide +kernel
theorem dX6_stayWithoutToken_22 : decode cX6_stayWithoutToken 22 = .ok (.aload_n 0, 1) := by decide +kernel
theorem dX6_stayWithoutToken_23 : decode cX6_stayWithoutToken 23 = .ok (.getfield 9, 3) := by decide +kernel
theorem dX6_stayWithoutToken_26 : decode cX6_stayWithoutToken 26 = .ok (.iconst 1, 1) := by decide +kernel
theorem dX6_stayWithoutToken_27 : decode cX6_stayWithoutToken 27 = .ok (.invokestatic 96, 3) := by decide +kernel
theorem dX6_stayWithoutToken_30 : decode cX6_stayWithoutToken 30 = .ok (.if_icmp .lt 9, 3) := by decide +kernel
theorem dX6_stayWithoutToken_33 : decode cX6_stayWithoutToken 33 = .ok (.iload_n 1, 1) := by decide +kernel
theorem dX6_stayWithoutToken_34 : decode cX6_stayWithoutToken 34 = .ok (.bipush (-2), 2) := by decide +kernel
theorem dX6_stayWithoutToken_36 : decode cX6_stayWithoutToken 36 = .ok (.if_icmp .ne 4, 3) := by decide +kernel
theorem dX6_stayWithoutToken_39 : decode cX6_stayWithoutToken 39 = .ok (.return_, 1) := by decide +kernel
theorem dX6_stayWithoutToken_40 : decode cX6_stayWithoutToken 40 = .ok (.aload_n 0, 1) := by decide +kernel
theorem dX6_stayWithoutToken_41 : decode cX6_stayWithoutToken 41 = .ok (.iconst 0, 1) := by decide +kernel
theorem dX6_stayWithoutToken_42 : decode cX6_stayWithoutToken 42 = .ok (.putfield 57, 3) := by decide +kernel
theorem dX6_stayWithoutToken_45 : decode cX6_stayWithoutToken 45 = .ok (.aload_n 0, 1) := by decide +kernel
theorem dX6_stayWithoutToken_46 : decode cX6_stayWithoutToken 46 = .ok (.getfield 28, 3) := by decide +kernel
theorem dX6_stayWithoutToken_49 : decode cX6_stayWithoutToken 49 = .ok (.iload_n 1, 1) := by decide +kernel
theorem dX6_stayWithoutToken_50 : decode cX6_stayWithoutToken 50 = .ok (.invokevirtual 68, 3) := by decide +kernel
theorem dX6_stayWithoutToken_53 : decode cX6_stayWithoutToken 53 = .ok (.aload_n 0, 1) := by decide +kernel
theorem dX6_stayWithoutToken_54 : decode cX6_stayWithoutToken 54 = .ok (.getfield 15, 3) := by decide +kernel
theorem dX6_stayWithoutToken_57 : decode cX6_stayWithoutToken 57 = .ok (.iconst 4, 1) := by decide +kernel
theorem dX6_stayWithoutToken_58 : decode cX6_stayWithoutToken 58 = .ok (.invokestatic 103, 3) := by decide +kernel
theorem dX6_stayWithoutToken_61 : decode cX6_stayWithoutToken 61 = .ok (.aload_n 0, 1) := by decide +kernel
theorem dX6_stayWithoutToken_62 : decode cX6_stayWithoutToken 62 = .ok (.getfield 35, 3) := by decide +kernel
theorem dX6_stayWithoutToken_65 : decode cX6_stayWithoutToken 65 = .ok (.iconst 4, 1) := by decide +kernel
theorem dX6_stayWithoutToken_66 : decode cX6_stayWithoutToken 66 = .ok (.iload_n 1, 1) := by decide +kernel
theorem dX6_stayWithoutToken_67 : decode cX6_stayWithoutToken 67 = .ok (.aload_n 0, 1) := by decide +kernel
theorem dX6_stayWithoutToken_68 : decode cX6_stayWithoutToken 68 = .ok (.getfield 28, 3) := by decide +kernel
theorem dX6_stayWithoutToken_71 : decode cX6_stayWithoutToken 71 = .ok (.getfield 75, 3) := by decide +kernel
theorem dX6_stayWithoutToken_74 : decode cX6_stayWithoutToken 74 = .ok (.invokevirtual 85, 3) := by decide +kernel
theorem dX6_stayWithoutToken_77 : decode cX6_stayWithoutToken 77 = .ok (.return_, 1) := by decide +kernel
theorem dX7_init_0 : decode cX7_init 0 = .ok (.aload_n 0, 1) := by decide +kernel
theorem dX7_init_1 : decode cX7_init 1 = .ok (.invokespecial 3, 3) := by decide +kernel
theorem dX7_init_4 : decode cX7_init 4 = .ok (.aload_n 0, 1) := by decide +kernel
theorem dX7_init_5 : decode cX7_init 5 = .ok (.iload_n 1, 1) := by decide +kernel
theorem dX7_init_6 : decode cX7_init 6 = .ok (.ifCond .le 7, 3) := by decide +kernel
theorem dX7_init_9 : decode cX7_init 9 = .ok (.iload_n 1, 1) := by decide +kernel
theorem dX7_init_10 : decode cX7_init 10 = .ok (.goto 4, 3) := by decide +kernel
theorem dX7_init_13 : decode cX7_init 13 = .ok (.iconst 0, 1) := by decide +kernel
theorem dX7_init_14 : decode cX7_init 14 = .ok (.newarray .byte, 2) := by decide +kernel
theorem dX7_init_16 : decode cX7_init 16 = .ok (.putfield 9, 3) := by decide +kernel
theorem dX7_init_19 : decode cX7_init 19 = .ok (.return_, 1) := by decide +kernel
theorem dX7_byteAt_0 : decode cX7_byteAt 0 = .ok (.iload_n 1, 1) := by decide +kernel
theorem dX7_byteAt_1 : decode cX7_byteAt 1 = .ok (.ifCond .lt 20, 3) := by decide +kernel
theorem dX7_byteAt_4 : decode cX7_byteAt 4 = .ok (.iload_n 1, 1) := by decide +kernel
theorem dX7_byteAt_5 : decode cX7_byteAt 5 = .ok (.aload_n 0, 1) := by decide +kernel
theorem dX7_byteAt_6 : decode cX7_byteAt 6 = .ok (.getfield 15, 3) := by decide +kernel
theorem dX7_byteAt_9 : decode cX7_byteAt 9 = .ok (.if_icmp .ge 12, 3) := by decide +kernel
theorem dX7_byteAt_12 : decode cX7_byteAt 12 = .ok (.iload_n 1, 1) := by decide +kernel
theorem dX7_byteAt_13 : decode cX7_byteAt 13 = .ok (.aload_n 0, 1) := by decide +kernel
theorem dX7_byteAt_14 : decode cX7_byteAt 14 = .ok (.getfield 9, 3) := by decide +kernel
theorem dX7_byteAt_17 : decode cX7_byteAt 17 = .ok (.arraylength, 1) := by decide +kernel
theorem dX7_byteAt_18 : decode cX7_byteAt 18 = .ok (.if_icmp .lt 6, 3) := by decide +kernel
theorem dX7_byteAt_21 : decode cX7_byteAt 21 = .ok (.bipush (-2), 2) := by decide +kernel
theorem dX7_byteAt_23 : decode cX7_byteAt 23 = .ok (.ireturn, 1) := by decide +kernel
theorem dX7_byteAt_24 : decode cX7_byteAt 24 = .ok (.aload_n 0, 1) := by decide +kernel
theorem dX7_byteAt_25 : decode cX7_byteAt 25 = .ok (.getfield 9, 3) := by decide +kernel
theorem dX7_byteAt_28 : decode cX7_byteAt 28 = .ok (.iload_n 1, 1) := by decide +kernel
theorem dX7_byteAt_29 : decode cX7_byteAt 29 = .ok (.baload, 1) := by decide +kernel
theorem dX7_byteAt_30 : decode cX7_byteAt 30 = .ok (.sipush 255, 3) := by decide +kernel
theorem dX7_byteAt_33 : decode cX7_byteAt 33 = .ok (.iand, 1) := by decide +kernel
theorem dX7_byteAt_34 : decode cX7_byteAt 34 = .ok (.ireturn, 1) := by decide +kernel
theorem dX7_isWord_0 : decode cX7_isWord 0 = .ok (.iload_n 2, 1) := by decide +kernel
theorem dX7_isWord_1 : decode cX7_isWord 1 = .ok (.ifCond .lt 22, 3) := by decide +kernel
theorem dX7_isWord_4 : decode cX7_isWord 4 = .ok (.iload_n 3, 1) := by decide +kernel
theorem dX7_isWord_5 : decode cX7_isWord 5 = .ok (.aload_n 0, 1) := by decide +kernel
theorem dX7_isWord_6 : decode cX7_isWord 6 = .ok (.getfield 9, 3) := by decide +kernel
theorem dX7_isWord_9 : decode cX7_isWord 9 = .ok (.arraylength, 1) := by decide +kernel
theorem dX7_isWord_10 : decode cX7_isWord 10 = .ok (.if_icmp .gt 13, 3) := by decide +kernel
theorem dX7_isWord_13 : decode cX7_isWord 13 = .ok (.iload_n 3, 1) := by decide +kernel
theorem dX7_isWord_14 : decode cX7_isWord 14 = .ok (.iload_n 2, 1) := by decide +kernel
theorem dX7_isWord_15 : decode cX7_isWord 15 = .ok (.isub, 1) := by decide +kernel
theorem dX7_isWord_16 : decode cX7_isWord 16 = .ok (.aload_n 1, 1) := by decide +kernel
theorem dX7_isWord_17 : decode cX7_isWord 17 = .ok (.invokevirtual 19, 3) := by decide +kernel
theorem dX7_isWord_20 : decode cX7_isWord 20 = .ok (.if_icmp .eq 5, 3) := by decide +kernel
theorem dX7_isWord_23 : decode cX7_isWord 23 = .ok (.iconst 0, 1) := by decide +kernel
theorem dX7_isWord_24 : decode cX7_isWord 24 = .ok (.ireturn, 1) := by decide +kernel
theorem dX7_isWord_25 : decode cX7_isWord 25 = .ok (.iconst 0, 1) := by decide +kernel
theorem dX7_isWord_26 : decode cX7_isWord 26 = .ok (.istore 4, 2) := by decide +kernel
theorem dX7_isWord_28 : decode cX7_isWord 28 = .ok (.iload 4, 2) := by decide +kernel
theorem dX7_isWord_30 : decode cX7_isWord 30 = .ok (.aload_n 1, 1) := by decide +kernel
theorem dX7_isWord_31 : decode cX7_isWord 31 = .ok (.invokevirtual 19, 3) := by decide +kernel
theorem dX7_isWord_34 : decode cX7_isWord 34 = .ok (.if_icmp .ge 29, 3) := by decide +kernel
theorem dX7_isWord_37 : decode cX7_isWord 37 = .ok (.aload_n 0, 1) := by decide +kernel
theorem dX7_isWord_38 : decode cX7_isWord 38 = .ok (.getfield 9, 3) := by decide +kernel
theorem dX7_isWord_41 : decode cX7_isWord 41 = .ok (.iload_n 2, 1) := by decide +kernel
theorem dX7_isWord_42 : decode cX7_isWord 42 = .ok (.iload 4, 2) := by decide +kernel
theorem dX7_isWord_44 : decode cX7_isWord 44 = .ok (.iadd, 1) := by decide +kernel
theorem dX7_isWord_45 : decode cX7_isWord 45 = .ok (.baload, 1) := by decide +kernel
theorem dX7_isWord_46 : decode cX7_isWord 46 = .ok (.aload_n 1, 1) := by decide +kernel
theorem dX7_isWord_47 : decode cX7_isWord 47 = .ok (.iload 4, 2) := by decide +kernel
theorem dX7_isWord_49 : decode cX7_isWord 49 = .ok (.invokevirtual 24, 3) := by decide +kernel
theorem dX7_isWord_52 : decode cX7_isWord 52 = .ok (.if_icmp .eq 5, 3) := by decide +kernel
theorem dX7_isWord_55 : decode cX7_isWord 55 = .ok (.iconst 0, 1) := by decide +kernel
theorem dX7_isWord_56 : decode cX7_isWord 56 = .ok (.ireturn, 1) := by decide +kernel
theorem dX7_isWord_57 : decode cX7_isWord 57 = .ok (.iinc 4 1, 3) := by decide +kernel
theorem dX7_isWord_60 : decode cX7_isWord 60 = .ok (.goto (-32), 3) := by decide +kernel
theorem dX7_isWord_63 : decode cX7_isWord 63 = .ok (.iconst 1, 1) := by decide +kernel
theorem dX7_isWord_64 : decode cX7_isWord 64 = .ok (.ireturn, 1) := by decide +kernel
theorem dX7_add_0 : decode cX7_add 0 = .ok (.aload_n 0, 1) := by decide +kernel
theorem dX7_add_1 : decode cX7_add 1 = .ok (.getfield 15, 3) := by decide +kernel
