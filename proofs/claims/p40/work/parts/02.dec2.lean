theorem dX7_add_4 : decode cX7_add 4 = .ok (.ifCond .lt 15, 3) := by decide +kernel
theorem dX7_add_7 : decode cX7_add 7 = .ok (.aload_n 0, 1) := by decide +kernel
theorem dX7_add_8 : decode cX7_add 8 = .ok (.getfield 15, 3) := by decide +kernel
theorem dX7_add_11 : decode cX7_add 11 = .ok (.aload_n 0, 1) := by decide +kernel
theorem dX7_add_12 : decode cX7_add 12 = .ok (.getfield 9, 3) := by decide +kernel
theorem dX7_add_15 : decode cX7_add 15 = .ok (.arraylength, 1) := by decide +kernel
theorem dX7_add_16 : decode cX7_add 16 = .ok (.if_icmp .lt 4, 3) := by decide +kernel
theorem dX7_add_19 : decode cX7_add 19 = .ok (.return_, 1) := by decide +kernel
theorem dX7_add_20 : decode cX7_add 20 = .ok (.aload_n 0, 1) := by decide +kernel
theorem dX7_add_21 : decode cX7_add 21 = .ok (.getfield 9, 3) := by decide +kernel
theorem dX7_add_24 : decode cX7_add 24 = .ok (.aload_n 0, 1) := by decide +kernel
theorem dX7_add_25 : decode cX7_add 25 = .ok (.getfield 15, 3) := by decide +kernel
theorem dX7_add_28 : decode cX7_add 28 = .ok (.iload_n 1, 1) := by decide +kernel
theorem dX7_add_29 : decode cX7_add 29 = .ok (.i2b, 1) := by decide +kernel
theorem dX7_add_30 : decode cX7_add 30 = .ok (.bastore, 1) := by decide +kernel
theorem dX7_add_31 : decode cX7_add 31 = .ok (.aload_n 0, 1) := by decide +kernel
theorem dX7_add_32 : decode cX7_add 32 = .ok (.dup, 1) := by decide +kernel
theorem dX7_add_33 : decode cX7_add 33 = .ok (.getfield 15, 3) := by decide +kernel
theorem dX7_add_36 : decode cX7_add 36 = .ok (.iconst 1, 1) := by decide +kernel
theorem dX7_add_37 : decode cX7_add 37 = .ok (.iadd, 1) := by decide +kernel
theorem dX7_add_38 : decode cX7_add 38 = .ok (.putfield 15, 3) := by decide +kernel
theorem dX7_add_41 : decode cX7_add 41 = .ok (.return_, 1) := by decide +kernel
theorem dX7_addFourBytes_0 : decode cX7_addFourBytes 0 = .ok (.aload_n 0, 1) := by decide +kernel
theorem dX7_addFourBytes_1 : decode cX7_addFourBytes 1 = .ok (.iload_n 1, 1) := by decide +kernel
theorem dX7_addFourBytes_2 : decode cX7_addFourBytes 2 = .ok (.bipush 24, 2) := by decide +kernel
theorem dX7_addFourBytes_4 : decode cX7_addFourBytes 4 = .ok (.iushr, 1) := by decide +kernel
theorem dX7_addFourBytes_5 : decode cX7_addFourBytes 5 = .ok (.invokevirtual 28, 3) := by decide +kernel
theorem dX7_addFourBytes_8 : decode cX7_addFourBytes 8 = .ok (.aload_n 0, 1) := by decide +kernel
theorem dX7_addFourBytes_9 : decode cX7_addFourBytes 9 = .ok (.iload_n 1, 1) := by decide +kernel
theorem dX7_addFourBytes_10 : decode cX7_addFourBytes 10 = .ok (.bipush 16, 2) := by decide +kernel
theorem dX7_addFourBytes_12 : decode cX7_addFourBytes 12 = .ok (.iushr, 1) := by decide +kernel
theorem dX7_addFourBytes_13 : decode cX7_addFourBytes 13 = .ok (.invokevirtual 28, 3) := by decide +kernel
theorem dX7_addFourBytes_16 : decode cX7_addFourBytes 16 = .ok (.aload_n 0, 1) := by decide +kernel
theorem dX7_addFourBytes_17 : decode cX7_addFourBytes 17 = .ok (.iload_n 1, 1) := by decide +kernel
theorem dX7_addFourBytes_18 : decode cX7_addFourBytes 18 = .ok (.bipush 8, 2) := by decide +kernel
theorem dX7_addFourBytes_20 : decode cX7_addFourBytes 20 = .ok (.iushr, 1) := by decide +kernel
theorem dX7_addFourBytes_21 : decode cX7_addFourBytes 21 = .ok (.invokevirtual 28, 3) := by decide +kernel
theorem dX7_addFourBytes_24 : decode cX7_addFourBytes 24 = .ok (.aload_n 0, 1) := by decide +kernel
theorem dX7_addFourBytes_25 : decode cX7_addFourBytes 25 = .ok (.iload_n 1, 1) := by decide +kernel
theorem dX7_addFourBytes_26 : decode cX7_addFourBytes 26 = .ok (.invokevirtual 28, 3) := by decide +kernel
theorem dX7_addFourBytes_29 : decode cX7_addFourBytes 29 = .ok (.return_, 1) := by decide +kernel
theorem dX7_addWord_0 : decode cX7_addWord 0 = .ok (.iconst 0, 1) := by decide +kernel
theorem dX7_addWord_1 : decode cX7_addWord 1 = .ok (.istore_n 2, 1) := by decide +kernel
theorem dX7_addWord_2 : decode cX7_addWord 2 = .ok (.iload_n 2, 1) := by decide +kernel
theorem dX7_addWord_3 : decode cX7_addWord 3 = .ok (.aload_n 1, 1) := by decide +kernel
theorem dX7_addWord_4 : decode cX7_addWord 4 = .ok (.invokevirtual 19, 3) := by decide +kernel
theorem dX7_addWord_7 : decode cX7_addWord 7 = .ok (.if_icmp .ge 18, 3) := by decide +kernel
theorem dX7_addWord_10 : decode cX7_addWord 10 = .ok (.aload_n 0, 1) := by decide +kernel
theorem dX7_addWord_11 : decode cX7_addWord 11 = .ok (.aload_n 1, 1) := by decide +kernel
theorem dX7_addWord_12 : decode cX7_addWord 12 = .ok (.iload_n 2, 1) := by decide +kernel
theorem dX7_addWord_13 : decode cX7_addWord 13 = .ok (.invokevirtual 24, 3) := by decide +kernel
theorem dX7_addWord_16 : decode cX7_addWord 16 = .ok (.invokevirtual 28, 3) := by decide +kernel
theorem dX7_addWord_19 : decode cX7_addWord 19 = .ok (.iinc 2 1, 3) := by decide +kernel
theorem dX7_addWord_22 : decode cX7_addWord 22 = .ok (.goto (-20), 3) := by decide +kernel
theorem dX7_addWord_25 : decode cX7_addWord 25 = .ok (.return_, 1) := by decide +kernel
theorem dX7_addNumber_0 : decode cX7_addNumber 0 = .ok (.iconst 0, 1) := by decide +kernel
theorem dX7_addNumber_1 : decode cX7_addNumber 1 = .ok (.istore_n 2, 1) := by decide +kernel
theorem dX7_addNumber_2 : decode cX7_addNumber 2 = .ok (.ldc 32, 2) := by decide +kernel
theorem dX7_addNumber_4 : decode cX7_addNumber 4 = .ok (.istore_n 3, 1) := by decide +kernel
theorem dX7_addNumber_5 : decode cX7_addNumber 5 = .ok (.iload_n 3, 1) := by decide +kernel
theorem dX7_addNumber_6 : decode cX7_addNumber 6 = .ok (.ifCond .le 52, 3) := by decide +kernel
theorem dX7_addNumber_9 : decode cX7_addNumber 9 = .ok (.iload_n 1, 1) := by decide +kernel
theorem dX7_addNumber_10 : decode cX7_addNumber 10 = .ok (.iload_n 3, 1) := by decide +kernel
theorem dX7_addNumber_11 : decode cX7_addNumber 11 = .ok (.idiv, 1) := by decide +kernel
theorem dX7_addNumber_12 : decode cX7_addNumber 12 = .ok (.bipush 10, 2) := by decide +kernel
theorem dX7_addNumber_14 : decode cX7_addNumber 14 = .ok (.irem, 1) := by decide +kernel
theorem dX7_addNumber_15 : decode cX7_addNumber 15 = .ok (.istore 4, 2) := by decide +kernel
theorem dX7_addNumber_17 : decode cX7_addNumber 17 = .ok (.iload_n 2, 1) := by decide +kernel
theorem dX7_addNumber_18 : decode cX7_addNumber 18 = .ok (.ifCond .ne 13, 3) := by decide +kernel
theorem dX7_addNumber_21 : decode cX7_addNumber 21 = .ok (.iload 4, 2) := by decide +kernel
theorem dX7_addNumber_23 : decode cX7_addNumber 23 = .ok (.ifCond .gt 8, 3) := by decide +kernel
theorem dX7_addNumber_26 : decode cX7_addNumber 26 = .ok (.iload_n 3, 1) := by decide +kernel
theorem dX7_addNumber_27 : decode cX7_addNumber 27 = .ok (.iconst 1, 1) := by decide +kernel
theorem dX7_addNumber_28 : decode cX7_addNumber 28 = .ok (.if_icmp .ne 7, 3) := by decide +kernel
theorem dX7_addNumber_31 : decode cX7_addNumber 31 = .ok (.iconst 1, 1) := by decide +kernel
theorem dX7_addNumber_32 : decode cX7_addNumber 32 = .ok (.goto 4, 3) := by decide +kernel
theorem dX7_addNumber_35 : decode cX7_addNumber 35 = .ok (.iconst 0, 1) := by decide +kernel
theorem dX7_addNumber_36 : decode cX7_addNumber 36 = .ok (.istore_n 2, 1) := by decide +kernel
theorem dX7_addNumber_37 : decode cX7_addNumber 37 = .ok (.iload_n 2, 1) := by decide +kernel
theorem dX7_addNumber_38 : decode cX7_addNumber 38 = .ok (.ifCond .eq 12, 3) := by decide +kernel
theorem dX7_addNumber_41 : decode cX7_addNumber 41 = .ok (.aload_n 0, 1) := by decide +kernel
theorem dX7_addNumber_42 : decode cX7_addNumber 42 = .ok (.bipush 48, 2) := by decide +kernel
theorem dX7_addNumber_44 : decode cX7_addNumber 44 = .ok (.iload 4, 2) := by decide +kernel
theorem dX7_addNumber_46 : decode cX7_addNumber 46 = .ok (.iadd, 1) := by decide +kernel
theorem dX7_addNumber_47 : decode cX7_addNumber 47 = .ok (.invokevirtual 28, 3) := by decide +kernel
theorem dX7_addNumber_50 : decode cX7_addNumber 50 = .ok (.iload_n 3, 1) := by decide +kernel
theorem dX7_addNumber_51 : decode cX7_addNumber 51 = .ok (.bipush 10, 2) := by decide +kernel
theorem dX7_addNumber_53 : decode cX7_addNumber 53 = .ok (.idiv, 1) := by decide +kernel
theorem dX7_addNumber_54 : decode cX7_addNumber 54 = .ok (.istore_n 3, 1) := by decide +kernel
theorem dX7_addNumber_55 : decode cX7_addNumber 55 = .ok (.goto (-50), 3) := by decide +kernel
theorem dX7_addNumber_58 : decode cX7_addNumber 58 = .ok (.return_, 1) := by decide +kernel
theorem dX8_init_0 : decode cX8_init 0 = .ok (.aload_n 0, 1) := by decide +kernel
theorem dX8_init_1 : decode cX8_init 1 = .ok (.invokespecial 3, 3) := by decide +kernel
theorem dX8_init_4 : decode cX8_init 4 = .ok (.aload_n 0, 1) := by decide +kernel
theorem dX8_init_5 : decode cX8_init 5 = .ok (.iconst 3, 1) := by decide +kernel
theorem dX8_init_6 : decode cX8_init 6 = .ok (.newarray .int, 2) := by decide +kernel
theorem dX8_init_8 : decode cX8_init 8 = .ok (.putfield 9, 3) := by decide +kernel
theorem dX8_init_11 : decode cX8_init 11 = .ok (.aload_n 0, 1) := by decide +kernel
theorem dX8_init_12 : decode cX8_init 12 = .ok (.iconst 3, 1) := by decide +kernel
theorem dX8_init_13 : decode cX8_init 13 = .ok (.newarray .int, 2) := by decide +kernel
theorem dX8_init_15 : decode cX8_init 15 = .ok (.putfield 15, 3) := by decide +kernel
theorem dX8_init_18 : decode cX8_init 18 = .ok (.aload_n 0, 1) := by decide +kernel
theorem dX8_init_19 : decode cX8_init 19 = .ok (.iconst 3, 1) := by decide +kernel
theorem dX8_init_20 : decode cX8_init 20 = .ok (.newarray .int, 2) := by decide +kernel
theorem dX8_init_22 : decode cX8_init 22 = .ok (.putfield 18, 3) := by decide +kernel
theorem dX8_init_25 : decode cX8_init 25 = .ok (.aload_n 0, 1) := by decide +kernel
theorem dX8_init_26 : decode cX8_init 26 = .ok (.iconst 3, 1) := by decide +kernel
theorem dX8_init_27 : decode cX8_init 27 = .ok (.newarray .int, 2) := by decide +kernel
theorem dX8_init_29 : decode cX8_init 29 = .ok (.putfield 21, 3) := by decide +kernel
theorem dX8_init_32 : decode cX8_init 32 = .ok (.aload_n 0, 1) := by decide +kernel
theorem dX8_init_33 : decode cX8_init 33 = .ok (.iconst 3, 1) := by decide +kernel
theorem dX8_init_34 : decode cX8_init 34 = .ok (.newarray .int, 2) := by decide +kernel
theorem dX8_init_36 : decode cX8_init 36 = .ok (.putfield 24, 3) := by decide +kernel
theorem dX8_init_39 : decode cX8_init 39 = .ok (.return_, 1) := by decide +kernel
theorem dX8_copyFrom_0 : decode cX8_copyFrom 0 = .ok (.aload_n 1, 1) := by decide +kernel
theorem dX8_copyFrom_1 : decode cX8_copyFrom 1 = .ok (.getfield 9, 3) := by decide +kernel
theorem dX8_copyFrom_4 : decode cX8_copyFrom 4 = .ok (.aload_n 0, 1) := by decide +kernel
theorem dX8_copyFrom_5 : decode cX8_copyFrom 5 = .ok (.getfield 9, 3) := by decide +kernel
theorem dX8_copyFrom_8 : decode cX8_copyFrom 8 = .ok (.invokestatic 27, 3) := by decide +kernel
theorem dX8_copyFrom_11 : decode cX8_copyFrom 11 = .ok (.aload_n 1, 1) := by decide +kernel
theorem dX8_copyFrom_12 : decode cX8_copyFrom 12 = .ok (.getfield 15, 3) := by decide +kernel
theorem dX8_copyFrom_15 : decode cX8_copyFrom 15 = .ok (.aload_n 0, 1) := by decide +kernel
theorem dX8_copyFrom_16 : decode cX8_copyFrom 16 = .ok (.getfield 15, 3) := by decide +kernel
theorem dX8_copyFrom_19 : decode cX8_copyFrom 19 = .ok (.invokestatic 27, 3) := by decide +kernel
theorem dX8_copyFrom_22 : decode cX8_copyFrom 22 = .ok (.aload_n 1, 1) := by decide +kernel
theorem dX8_copyFrom_23 : decode cX8_copyFrom 23 = .ok (.getfield 18, 3) := by decide +kernel
theorem dX8_copyFrom_26 : decode cX8_copyFrom 26 = .ok (.aload_n 0, 1) := by decide +kernel
theorem dX8_copyFrom_27 : decode cX8_copyFrom 27 = .ok (.getfield 18, 3) := by decide +kernel
theorem dX8_copyFrom_30 : decode cX8_copyFrom 30 = .ok (.invokestatic 27, 3) := by decide +kernel
theorem dX8_copyFrom_33 : decode cX8_copyFrom 33 = .ok (.aload_n 1, 1) := by decide +kernel
theorem dX8_copyFrom_34 : decode cX8_copyFrom 34 = .ok (.getfield 21, 3) := by decide +kernel
theorem dX8_copyFrom_37 : decode cX8_copyFrom 37 = .ok (.aload_n 0, 1) := by decide +kernel
theorem dX8_copyFrom_38 : decode cX8_copyFrom 38 = .ok (.getfield 21, 3) := by decide +kernel
theorem dX8_copyFrom_41 : decode cX8_copyFrom 41 = .ok (.invokestatic 27, 3) := by decide +kernel
theorem dX8_copyFrom_44 : decode cX8_copyFrom 44 = .ok (.aload_n 1, 1) := by decide +kernel
theorem dX8_copyFrom_45 : decode cX8_copyFrom 45 = .ok (.getfield 24, 3) := by decide +kernel
theorem dX8_copyFrom_48 : decode cX8_copyFrom 48 = .ok (.aload_n 0, 1) := by decide +kernel
theorem dX8_copyFrom_49 : decode cX8_copyFrom 49 = .ok (.getfield 24, 3) := by decide +kernel
theorem dX8_copyFrom_52 : decode cX8_copyFrom 52 = .ok (.invokestatic 27, 3) := by decide +kernel
theorem dX8_copyFrom_55 : decode cX8_copyFrom 55 = .ok (.aload_n 0, 1) := by decide +kernel
theorem dX8_copyFrom_56 : decode cX8_copyFrom 56 = .ok (.aload_n 1, 1) := by decide +kernel
theorem dX8_copyFrom_57 : decode cX8_copyFrom 57 = .ok (.getfield 31, 3) := by decide +kernel
theorem dX8_copyFrom_60 : decode cX8_copyFrom 60 = .ok (.putfield 31, 3) := by decide +kernel
theorem dX8_copyFrom_63 : decode cX8_copyFrom 63 = .ok (.aload_n 0, 1) := by decide +kernel
theorem dX8_copyFrom_64 : decode cX8_copyFrom 64 = .ok (.aload_n 1, 1) := by decide +kernel
theorem dX8_copyFrom_65 : decode cX8_copyFrom 65 = .ok (.getfield 35, 3) := by decide +kernel
theorem dX8_copyFrom_68 : decode cX8_copyFrom 68 = .ok (.putfield 35, 3) := by decide +kernel
theorem dX8_copyFrom_71 : decode cX8_copyFrom 71 = .ok (.return_, 1) := by decide +kernel
theorem dX8_has_0 : decode cX8_has 0 = .ok (.iload_n 1, 1) := by decide +kernel
theorem dX8_has_1 : decode cX8_has 1 = .ok (.ifCond .lt 15, 3) := by decide +kernel
theorem dX8_has_4 : decode cX8_has 4 = .ok (.iload_n 1, 1) := by decide +kernel
theorem dX8_has_5 : decode cX8_has 5 = .ok (.aload_n 0, 1) := by decide +kernel
theorem dX8_has_6 : decode cX8_has 6 = .ok (.getfield 31, 3) := by decide +kernel
theorem dX8_has_9 : decode cX8_has 9 = .ok (.if_icmp .ge 7, 3) := by decide +kernel
theorem dX8_has_12 : decode cX8_has 12 = .ok (.iconst 1, 1) := by decide +kernel
theorem dX8_has_13 : decode cX8_has 13 = .ok (.goto 4, 3) := by decide +kernel
theorem dX8_has_16 : decode cX8_has 16 = .ok (.iconst 0, 1) := by decide +kernel
theorem dX8_has_17 : decode cX8_has 17 = .ok (.ireturn, 1) := by decide +kernel
theorem dX8_add_0 : decode cX8_add 0 = .ok (.aload_n 0, 1) := by decide +kernel
theorem dX8_add_1 : decode cX8_add 1 = .ok (.getfield 31, 3) := by decide +kernel
theorem dX8_add_4 : decode cX8_add 4 = .ok (.iconst 3, 1) := by decide +kernel
theorem dX8_add_5 : decode cX8_add 5 = .ok (.if_icmp .lt 4, 3) := by decide +kernel
theorem dX8_add_8 : decode cX8_add 8 = .ok (.return_, 1) := by decide +kernel
theorem dX8_add_9 : decode cX8_add 9 = .ok (.aload_n 0, 1) := by decide +kernel
theorem dX8_add_10 : decode cX8_add 10 = .ok (.dup, 1) := by decide +kernel
theorem dX8_add_11 : decode cX8_add 11 = .ok (.getfield 35, 3) := by decide +kernel
theorem dX8_add_14 : decode cX8_add 14 = .ok (.iconst 1, 1) := by decide +kernel
theorem dX8_add_15 : decode cX8_add 15 = .ok (.iadd, 1) := by decide +kernel
theorem dX8_add_16 : decode cX8_add 16 = .ok (.putfield 35, 3) := by decide +kernel
theorem dX8_add_19 : decode cX8_add 19 = .ok (.aload_n 0, 1) := by decide +kernel
theorem dX8_add_20 : decode cX8_add 20 = .ok (.getfield 9, 3) := by decide +kernel
theorem dX8_add_23 : decode cX8_add 23 = .ok (.aload_n 0, 1) := by decide +kernel
theorem dX8_add_24 : decode cX8_add 24 = .ok (.getfield 31, 3) := by decide +kernel
theorem dX8_add_27 : decode cX8_add 27 = .ok (.aload_n 0, 1) := by decide +kernel
theorem dX8_add_28 : decode cX8_add 28 = .ok (.getfield 35, 3) := by decide +kernel
theorem dX8_add_31 : decode cX8_add 31 = .ok (.invokestatic 38, 3) := by decide +kernel
theorem dX8_add_34 : decode cX8_add 34 = .ok (.aload_n 0, 1) := by decide +kernel
theorem dX8_add_35 : decode cX8_add 35 = .ok (.getfield 15, 3) := by decide +kernel
theorem dX8_add_38 : decode cX8_add 38 = .ok (.aload_n 0, 1) := by decide +kernel
theorem dX8_add_39 : decode cX8_add 39 = .ok (.getfield 31, 3) := by decide +kernel
theorem dX8_add_42 : decode cX8_add 42 = .ok (.iload_n 1, 1) := by decide +kernel
theorem dX8_add_43 : decode cX8_add 43 = .ok (.invokestatic 38, 3) := by decide +kernel
theorem dX8_add_46 : decode cX8_add 46 = .ok (.aload_n 0, 1) := by decide +kernel
theorem dX8_add_47 : decode cX8_add 47 = .ok (.getfield 18, 3) := by decide +kernel
theorem dX8_add_50 : decode cX8_add 50 = .ok (.aload_n 0, 1) := by decide +kernel
theorem dX8_add_51 : decode cX8_add 51 = .ok (.getfield 31, 3) := by decide +kernel
theorem dX8_add_54 : decode cX8_add 54 = .ok (.iconst 0, 1) := by decide +kernel
theorem dX8_add_55 : decode cX8_add 55 = .ok (.invokestatic 38, 3) := by decide +kernel
theorem dX8_add_58 : decode cX8_add 58 = .ok (.aload_n 0, 1) := by decide +kernel
theorem dX8_add_59 : decode cX8_add 59 = .ok (.getfield 21, 3) := by decide +kernel
theorem dX8_add_62 : decode cX8_add 62 = .ok (.aload_n 0, 1) := by decide +kernel
theorem dX8_add_63 : decode cX8_add 63 = .ok (.getfield 31, 3) := by decide +kernel
theorem dX8_add_66 : decode cX8_add 66 = .ok (.iconst 0, 1) := by decide +kernel
theorem dX8_add_67 : decode cX8_add 67 = .ok (.invokestatic 38, 3) := by decide +kernel
theorem dX8_add_70 : decode cX8_add 70 = .ok (.aload_n 0, 1) := by decide +kernel
theorem dX8_add_71 : decode cX8_add 71 = .ok (.getfield 24, 3) := by decide +kernel
theorem dX8_add_74 : decode cX8_add 74 = .ok (.aload_n 0, 1) := by decide +kernel
theorem dX8_add_75 : decode cX8_add 75 = .ok (.getfield 31, 3) := by decide +kernel
theorem dX8_add_78 : decode cX8_add 78 = .ok (.iconst 0, 1) := by decide +kernel
theorem dX8_add_79 : decode cX8_add 79 = .ok (.invokestatic 38, 3) := by decide +kernel
theorem dX8_add_82 : decode cX8_add 82 = .ok (.aload_n 0, 1) := by decide +kernel
theorem dX8_add_83 : decode cX8_add 83 = .ok (.dup, 1) := by decide +kernel
theorem dX8_add_84 : decode cX8_add 84 = .ok (.getfield 31, 3) := by decide +kernel
theorem dX8_add_87 : decode cX8_add 87 = .ok (.iconst 1, 1) := by decide +kernel
theorem dX8_add_88 : decode cX8_add 88 = .ok (.iadd, 1) := by decide +kernel
theorem dX8_add_89 : decode cX8_add 89 = .ok (.putfield 31, 3) := by decide +kernel
theorem dX8_add_92 : decode cX8_add 92 = .ok (.return_, 1) := by decide +kernel
theorem dX8_remove_0 : decode cX8_remove 0 = .ok (.aload_n 0, 1) := by decide +kernel
theorem dX8_remove_1 : decode cX8_remove 1 = .ok (.iload_n 1, 1) := by decide +kernel
theorem dX8_remove_2 : decode cX8_remove 2 = .ok (.invokevirtual 42, 3) := by decide +kernel
theorem dX8_remove_5 : decode cX8_remove 5 = .ok (.ifCond .ne 4, 3) := by decide +kernel
theorem dX8_remove_8 : decode cX8_remove 8 = .ok (.return_, 1) := by decide +kernel
theorem dX8_remove_9 : decode cX8_remove 9 = .ok (.aload_n 0, 1) := by decide +kernel
theorem dX8_remove_10 : decode cX8_remove 10 = .ok (.getfield 9, 3) := by decide +kernel
theorem dX8_remove_13 : decode cX8_remove 13 = .ok (.iload_n 1, 1) := by decide +kernel
theorem dX8_remove_14 : decode cX8_remove 14 = .ok (.aload_n 0, 1) := by decide +kernel
theorem dX8_remove_15 : decode cX8_remove 15 = .ok (.getfield 31, 3) := by decide +kernel
theorem dX8_remove_18 : decode cX8_remove 18 = .ok (.invokestatic 46, 3) := by decide +kernel
theorem dX8_remove_21 : decode cX8_remove 21 = .ok (.aload_n 0, 1) := by decide +kernel
theorem dX8_remove_22 : decode cX8_remove 22 = .ok (.getfield 15, 3) := by decide +kernel
theorem dX8_remove_25 : decode cX8_remove 25 = .ok (.iload_n 1, 1) := by decide +kernel
theorem dX8_remove_26 : decode cX8_remove 26 = .ok (.aload_n 0, 1) := by decide +kernel
theorem dX8_remove_27 : decode cX8_remove 27 = .ok (.getfield 31, 3) := by decide +kernel
theorem dX8_remove_30 : decode cX8_remove 30 = .ok (.invokestatic 46, 3) := by decide +kernel
theorem dX8_remove_33 : decode cX8_remove 33 = .ok (.aload_n 0, 1) := by decide +kernel
theorem dX8_remove_34 : decode cX8_remove 34 = .ok (.getfield 18, 3) := by decide +kernel
theorem dX8_remove_37 : decode cX8_remove 37 = .ok (.iload_n 1, 1) := by decide +kernel
theorem dX8_remove_38 : decode cX8_remove 38 = .ok (.aload_n 0, 1) := by decide +kernel
theorem dX8_remove_39 : decode cX8_remove 39 = .ok (.getfield 31, 3) := by decide +kernel
theorem dX8_remove_42 : decode cX8_remove 42 = .ok (.invokestatic 46, 3) := by decide +kernel
theorem dX8_remove_45 : decode cX8_remove 45 = .ok (.aload_n 0, 1) := by decide +kernel
theorem dX8_remove_46 : decode cX8_remove 46 = .ok (.getfield 21, 3) := by decide +kernel
theorem dX8_remove_49 : decode cX8_remove 49 = .ok (.iload_n 1, 1) := by decide +kernel
theorem dX8_remove_50 : decode cX8_remove 50 = .ok (.aload_n 0, 1) := by decide +kernel
theorem dX8_remove_51 : decode cX8_remove 51 = .ok (.getfield 31, 3) := by decide +kernel
theorem dX8_remove_54 : decode cX8_remove 54 = .ok (.invokestatic 46, 3) := by decide +kernel
theorem dX8_remove_57 : decode cX8_remove 57 = .ok (.aload_n 0, 1) := by decide +kernel
theorem dX8_remove_58 : decode cX8_remove 58 = .ok (.getfield 24, 3) := by decide +kernel
theorem dX8_remove_61 : decode cX8_remove 61 = .ok (.iload_n 1, 1) := by decide +kernel
theorem dX8_remove_62 : decode cX8_remove 62 = .ok (.aload_n 0, 1) := by decide +kernel
theorem dX8_remove_63 : decode cX8_remove 63 = .ok (.getfield 31, 3) := by decide +kernel
theorem dX8_remove_66 : decode cX8_remove 66 = .ok (.invokestatic 46, 3) := by decide +kernel
theorem dX8_remove_69 : decode cX8_remove 69 = .ok (.aload_n 0, 1) := by decide +kernel
theorem dX8_remove_70 : decode cX8_remove 70 = .ok (.dup, 1) := by decide +kernel
theorem dX8_remove_71 : decode cX8_remove 71 = .ok (.getfield 31, 3) := by decide +kernel
theorem dX8_remove_74 : decode cX8_remove 74 = .ok (.iconst 1, 1) := by decide +kernel
theorem dX8_remove_75 : decode cX8_remove 75 = .ok (.isub, 1) := by decide +kernel
theorem dX8_remove_76 : decode cX8_remove 76 = .ok (.putfield 31, 3) := by decide +kernel
theorem dX8_remove_79 : decode cX8_remove 79 = .ok (.return_, 1) := by decide +kernel
theorem dX8_setOut_0 : decode cX8_setOut 0 = .ok (.aload_n 0, 1) := by decide +kernel
theorem dX8_setOut_1 : decode cX8_setOut 1 = .ok (.getfield 15, 3) := by decide +kernel
theorem dX8_setOut_4 : decode cX8_setOut 4 = .ok (.iload_n 1, 1) := by decide +kernel
theorem dX8_setOut_5 : decode cX8_setOut 5 = .ok (.iload_n 2, 1) := by decide +kernel
theorem dX8_setOut_6 : decode cX8_setOut 6 = .ok (.invokestatic 38, 3) := by decide +kernel
theorem dX8_setOut_9 : decode cX8_setOut 9 = .ok (.aload_n 0, 1) := by decide +kernel
theorem dX8_setOut_10 : decode cX8_setOut 10 = .ok (.getfield 18, 3) := by decide +kernel
theorem dX8_setOut_13 : decode cX8_setOut 13 = .ok (.iload_n 1, 1) := by decide +kernel
theorem dX8_setOut_14 : decode cX8_setOut 14 = .ok (.iload_n 3, 1) := by decide +kernel
theorem dX8_setOut_15 : decode cX8_setOut 15 = .ok (.invokestatic 38, 3) := by decide +kernel
theorem dX8_setOut_18 : decode cX8_setOut 18 = .ok (.aload_n 0, 1) := by decide +kernel
theorem dX8_setOut_19 : decode cX8_setOut 19 = .ok (.getfield 21, 3) := by decide +kernel
theorem dX8_setOut_22 : decode cX8_setOut 22 = .ok (.iload_n 1, 1) := by decide +kernel
theorem dX8_setOut_23 : decode cX8_setOut 23 = .ok (.iconst 0, 1) := by decide +kernel
theorem dX8_setOut_24 : decode cX8_setOut 24 = .ok (.invokestatic 38, 3) := by decide +kernel
theorem dX8_setOut_27 : decode cX8_setOut 27 = .ok (.return_, 1) := by decide +kernel
theorem dX8_isAt_0 : decode cX8_isAt 0 = .ok (.aload_n 0, 1) := by decide +kernel
theorem dX8_isAt_1 : decode cX8_isAt 1 = .ok (.getfield 18, 3) := by decide +kernel
theorem dX8_isAt_4 : decode cX8_isAt 4 = .ok (.iload_n 1, 1) := by decide +kernel
theorem dX8_isAt_5 : decode cX8_isAt 5 = .ok (.invokestatic 49, 3) := by decide +kernel
theorem dX8_isAt_8 : decode cX8_isAt 8 = .ok (.ifCond .ne 19, 3) := by decide +kernel
theorem dX8_isAt_11 : decode cX8_isAt 11 = .ok (.aload_n 0, 1) := by decide +kernel
theorem dX8_isAt_12 : decode cX8_isAt 12 = .ok (.getfield 15, 3) := by decide +kernel
theorem dX8_isAt_15 : decode cX8_isAt 15 = .ok (.iload_n 1, 1) := by decide +kernel
theorem dX8_isAt_16 : decode cX8_isAt 16 = .ok (.invokestatic 49, 3) := by decide +kernel
theorem dX8_isAt_19 : decode cX8_isAt 19 = .ok (.iload_n 2, 1) := by decide +kernel
theorem dX8_isAt_20 : decode cX8_isAt 20 = .ok (.if_icmp .ne 7, 3) := by decide +kernel
theorem dX8_isAt_23 : decode cX8_isAt 23 = .ok (.iconst 1, 1) := by decide +kernel
theorem dX8_isAt_24 : decode cX8_isAt 24 = .ok (.goto 4, 3) := by decide +kernel
theorem dX8_isAt_27 : decode cX8_isAt 27 = .ok (.iconst 0, 1) := by decide +kernel
theorem dX8_isAt_28 : decode cX8_isAt 28 = .ok (.ireturn, 1) := by decide +kernel
theorem dX8_standingAt_0 : decode cX8_standingAt 0 = .ok (.iconst 0, 1) := by decide +kernel
theorem dX8_standingAt_1 : decode cX8_standingAt 1 = .ok (.istore_n 2, 1) := by decide +kernel
theorem dX8_standingAt_2 : decode cX8_standingAt 2 = .ok (.iload_n 2, 1) := by decide +kernel
theorem dX8_standingAt_3 : decode cX8_standingAt 3 = .ok (.aload_n 0, 1) := by decide +kernel
theorem dX8_standingAt_4 : decode cX8_standingAt 4 = .ok (.getfield 31, 3) := by decide +kernel
theorem dX8_standingAt_7 : decode cX8_standingAt 7 = .ok (.if_icmp .ge 20, 3) := by decide +kernel
theorem dX8_standingAt_10 : decode cX8_standingAt 10 = .ok (.aload_n 0, 1) := by decide +kernel
theorem dX8_standingAt_11 : decode cX8_standingAt 11 = .ok (.iload_n 2, 1) := by decide +kernel
theorem dX8_standingAt_12 : decode cX8_standingAt 12 = .ok (.iload_n 1, 1) := by decide +kernel
theorem dX8_standingAt_13 : decode cX8_standingAt 13 = .ok (.invokevirtual 53, 3) := by decide +kernel
theorem dX8_standingAt_16 : decode cX8_standingAt 16 = .ok (.ifCond .eq 5, 3) := by decide +kernel
theorem dX8_standingAt_19 : decode cX8_standingAt 19 = .ok (.iload_n 2, 1) := by decide +kernel
theorem dX8_standingAt_20 : decode cX8_standingAt 20 = .ok (.ireturn, 1) := by decide +kernel
theorem dX8_standingAt_21 : decode cX8_standingAt 21 = .ok (.iinc 2 1, 3) := by decide +kernel
theorem dX8_standingAt_24 : decode cX8_standingAt 24 = .ok (.goto (-22), 3) := by decide +kernel
theorem dX8_standingAt_27 : decode cX8_standingAt 27 = .ok (.bipush (-2), 2) := by decide +kernel
theorem dX8_standingAt_29 : decode cX8_standingAt 29 = .ok (.ireturn, 1) := by decide +kernel
theorem dX8_firstStanding_0 : decode cX8_firstStanding 0 = .ok (.iconst 0, 1) := by decide +kernel
theorem dX8_firstStanding_1 : decode cX8_firstStanding 1 = .ok (.istore_n 1, 1) := by decide +kernel
theorem dX8_firstStanding_2 : decode cX8_firstStanding 2 = .ok (.iload_n 1, 1) := by decide +kernel
theorem dX8_firstStanding_3 : decode cX8_firstStanding 3 = .ok (.aload_n 0, 1) := by decide +kernel
theorem dX8_firstStanding_4 : decode cX8_firstStanding 4 = .ok (.getfield 31, 3) := by decide +kernel
theorem dX8_firstStanding_7 : decode cX8_firstStanding 7 = .ok (.if_icmp .ge 22, 3) := by decide +kernel
theorem dX8_firstStanding_10 : decode cX8_firstStanding 10 = .ok (.aload_n 0, 1) := by decide +kernel
theorem dX8_firstStanding_11 : decode cX8_firstStanding 11 = .ok (.getfield 18, 3) := by decide +kernel
theorem dX8_firstStanding_14 : decode cX8_firstStanding 14 = .ok (.iload_n 1, 1) := by decide +kernel
theorem dX8_firstStanding_15 : decode cX8_firstStanding 15 = .ok (.invokestatic 49, 3) := by decide +kernel
theorem dX8_firstStanding_18 : decode cX8_firstStanding 18 = .ok (.ifCond .ne 5, 3) := by decide +kernel
theorem dX8_firstStanding_21 : decode cX8_firstStanding 21 = .ok (.iload_n 1, 1) := by decide +kernel
theorem dX8_firstStanding_22 : decode cX8_firstStanding 22 = .ok (.ireturn, 1) := by decide +kernel
theorem dX8_firstStanding_23 : decode cX8_firstStanding 23 = .ok (.iinc 1 1, 3) := by decide +kernel
theorem dX8_firstStanding_26 : decode cX8_firstStanding 26 = .ok (.goto (-24), 3) := by decide +kernel
theorem dX8_firstStanding_29 : decode cX8_firstStanding 29 = .ok (.bipush (-2), 2) := by decide +kernel
theorem dX8_firstStanding_31 : decode cX8_firstStanding 31 = .ok (.ireturn, 1) := by decide +kernel
theorem dX8_leftAt_0 : decode cX8_leftAt 0 = .ok (.aload_n 0, 1) := by decide +kernel
theorem dX8_leftAt_1 : decode cX8_leftAt 1 = .ok (.getfield 24, 3) := by decide +kernel
theorem dX8_leftAt_4 : decode cX8_leftAt 4 = .ok (.aload_n 0, 1) := by decide +kernel
theorem dX8_leftAt_5 : decode cX8_leftAt 5 = .ok (.iload_n 1, 1) := by decide +kernel
theorem dX8_leftAt_6 : decode cX8_leftAt 6 = .ok (.invokevirtual 57, 3) := by decide +kernel
theorem dX8_leftAt_9 : decode cX8_leftAt 9 = .ok (.invokestatic 49, 3) := by decide +kernel
theorem dX8_leftAt_12 : decode cX8_leftAt 12 = .ok (.ireturn, 1) := by decide +kernel
theorem dX8_isFollowedThere_0 : decode cX8_isFollowedThere 0 = .ok (.aload_n 0, 1) := by decide +kernel
theorem dX8_isFollowedThere_1 : decode cX8_isFollowedThere 1 = .ok (.getfield 18, 3) := by decide +kernel
theorem dX8_isFollowedThere_4 : decode cX8_isFollowedThere 4 = .ok (.iload_n 1, 1) := by decide +kernel
theorem dX8_isFollowedThere_5 : decode cX8_isFollowedThere 5 = .ok (.invokestatic 49, 3) := by decide +kernel
theorem dX8_isFollowedThere_8 : decode cX8_isFollowedThere 8 = .ok (.ifCond .le 5, 3) := by decide +kernel
theorem dX8_isFollowedThere_11 : decode cX8_isFollowedThere 11 = .ok (.iconst 0, 1) := by decide +kernel
theorem dX8_isFollowedThere_12 : decode cX8_isFollowedThere 12 = .ok (.ireturn, 1) := by decide +kernel
theorem dX8_isFollowedThere_13 : decode cX8_isFollowedThere 13 = .ok (.iload_n 1, 1) := by decide +kernel
theorem dX8_isFollowedThere_14 : decode cX8_isFollowedThere 14 = .ok (.iconst 1, 1) := by decide +kernel
theorem dX8_isFollowedThere_15 : decode cX8_isFollowedThere 15 = .ok (.iadd, 1) := by decide +kernel
theorem dX8_isFollowedThere_16 : decode cX8_isFollowedThere 16 = .ok (.istore_n 2, 1) := by decide +kernel
theorem dX8_isFollowedThere_17 : decode cX8_isFollowedThere 17 = .ok (.iload_n 2, 1) := by decide +kernel
theorem dX8_isFollowedThere_18 : decode cX8_isFollowedThere 18 = .ok (.aload_n 0, 1) := by decide +kernel
theorem dX8_isFollowedThere_19 : decode cX8_isFollowedThere 19 = .ok (.getfield 31, 3) := by decide +kernel
theorem dX8_isFollowedThere_22 : decode cX8_isFollowedThere 22 = .ok (.if_icmp .ge 27, 3) := by decide +kernel
theorem dX8_isFollowedThere_25 : decode cX8_isFollowedThere 25 = .ok (.aload_n 0, 1) := by decide +kernel
theorem dX8_isFollowedThere_26 : decode cX8_isFollowedThere 26 = .ok (.iload_n 2, 1) := by decide +kernel
theorem dX8_isFollowedThere_27 : decode cX8_isFollowedThere 27 = .ok (.aload_n 0, 1) := by decide +kernel
theorem dX8_isFollowedThere_28 : decode cX8_isFollowedThere 28 = .ok (.getfield 15, 3) := by decide +kernel
theorem dX8_isFollowedThere_31 : decode cX8_isFollowedThere 31 = .ok (.iload_n 1, 1) := by decide +kernel
theorem dX8_isFollowedThere_32 : decode cX8_isFollowedThere 32 = .ok (.invokestatic 49, 3) := by decide +kernel
theorem dX8_isFollowedThere_35 : decode cX8_isFollowedThere 35 = .ok (.invokevirtual 53, 3) := by decide +kernel
theorem dX8_isFollowedThere_38 : decode cX8_isFollowedThere 38 = .ok (.ifCond .eq 5, 3) := by decide +kernel
theorem dX8_isFollowedThere_41 : decode cX8_isFollowedThere 41 = .ok (.iconst 1, 1) := by decide +kernel
theorem dX8_isFollowedThere_42 : decode cX8_isFollowedThere 42 = .ok (.ireturn, 1) := by decide +kernel
theorem dX8_isFollowedThere_43 : decode cX8_isFollowedThere 43 = .ok (.iinc 2 1, 3) := by decide +kernel
theorem dX8_isFollowedThere_46 : decode cX8_isFollowedThere 46 = .ok (.goto (-29), 3) := by decide +kernel
theorem dX8_isFollowedThere_49 : decode cX8_isFollowedThere 49 = .ok (.iconst 0, 1) := by decide +kernel
theorem dX8_isFollowedThere_50 : decode cX8_isFollowedThere 50 = .ok (.ireturn, 1) := by decide +kernel
theorem dX8_howManySpeak_0 : decode cX8_howManySpeak 0 = .ok (.iconst 0, 1) := by decide +kernel
theorem dX8_howManySpeak_1 : decode cX8_howManySpeak 1 = .ok (.istore_n 1, 1) := by decide +kernel
theorem dX8_howManySpeak_2 : decode cX8_howManySpeak 2 = .ok (.iconst 0, 1) := by decide +kernel
theorem dX8_howManySpeak_3 : decode cX8_howManySpeak 3 = .ok (.istore_n 2, 1) := by decide +kernel
theorem dX8_howManySpeak_4 : decode cX8_howManySpeak 4 = .ok (.iload_n 2, 1) := by decide +kernel
theorem dX8_howManySpeak_5 : decode cX8_howManySpeak 5 = .ok (.aload_n 0, 1) := by decide +kernel
theorem dX8_howManySpeak_6 : decode cX8_howManySpeak 6 = .ok (.getfield 31, 3) := by decide +kernel
theorem dX8_howManySpeak_9 : decode cX8_howManySpeak 9 = .ok (.if_icmp .ge 23, 3) := by decide +kernel
theorem dX8_howManySpeak_12 : decode cX8_howManySpeak 12 = .ok (.aload_n 0, 1) := by decide +kernel
theorem dX8_howManySpeak_13 : decode cX8_howManySpeak 13 = .ok (.getfield 24, 3) := by decide +kernel
theorem dX8_howManySpeak_16 : decode cX8_howManySpeak 16 = .ok (.iload_n 2, 1) := by decide +kernel
theorem dX8_howManySpeak_17 : decode cX8_howManySpeak 17 = .ok (.invokestatic 49, 3) := by decide +kernel
theorem dX8_howManySpeak_20 : decode cX8_howManySpeak 20 = .ok (.ifCond .le 6, 3) := by decide +kernel
theorem dX8_howManySpeak_23 : decode cX8_howManySpeak 23 = .ok (.iinc 1 1, 3) := by decide +kernel
theorem dX8_howManySpeak_26 : decode cX8_howManySpeak 26 = .ok (.iinc 2 1, 3) := by decide +kernel
theorem dX8_howManySpeak_29 : decode cX8_howManySpeak 29 = .ok (.goto (-25), 3) := by decide +kernel
theorem dX8_howManySpeak_32 : decode cX8_howManySpeak 32 = .ok (.iload_n 1, 1) := by decide +kernel
theorem dX8_howManySpeak_33 : decode cX8_howManySpeak 33 = .ok (.ireturn, 1) := by decide +kernel
theorem dX9_init_0 : decode cX9_init 0 = .ok (.aload_n 0, 1) := by decide +kernel
theorem dX9_init_1 : decode cX9_init 1 = .ok (.invokespecial 1, 3) := by decide +kernel
theorem dX9_init_4 : decode cX9_init 4 = .ok (.aload_n 0, 1) := by decide +kernel
theorem dX9_init_5 : decode cX9_init 5 = .ok (.new 7, 3) := by decide +kernel
theorem dX9_init_8 : decode cX9_init 8 = .ok (.dup, 1) := by decide +kernel
theorem dX9_init_9 : decode cX9_init 9 = .ok (.invokespecial 9, 3) := by decide +kernel
theorem dX9_init_12 : decode cX9_init 12 = .ok (.putfield 10, 3) := by decide +kernel
theorem dX9_init_15 : decode cX9_init 15 = .ok (.aload_n 0, 1) := by decide +kernel
theorem dX9_init_16 : decode cX9_init 16 = .ok (.new 16, 3) := by decide +kernel
theorem dX9_init_19 : decode cX9_init 19 = .ok (.dup, 1) := by decide +kernel
theorem dX9_init_20 : decode cX9_init 20 = .ok (.invokespecial 18, 3) := by decide +kernel
theorem dX9_init_23 : decode cX9_init 23 = .ok (.putfield 19, 3) := by decide +kernel
theorem dX9_init_26 : decode cX9_init 26 = .ok (.aload_n 0, 1) := by decide +kernel
theorem dX9_init_27 : decode cX9_init 27 = .ok (.new 23, 3) := by decide +kernel
theorem dX9_init_30 : decode cX9_init 30 = .ok (.dup, 1) := by decide +kernel
theorem dX9_init_31 : decode cX9_init 31 = .ok (.invokespecial 25, 3) := by decide +kernel
theorem dX9_init_34 : decode cX9_init 34 = .ok (.putfield 26, 3) := by decide +kernel
theorem dX9_init_37 : decode cX9_init 37 = .ok (.aload_n 0, 1) := by decide +kernel
theorem dX9_init_38 : decode cX9_init 38 = .ok (.new 30, 3) := by decide +kernel
theorem dX9_init_41 : decode cX9_init 41 = .ok (.dup, 1) := by decide +kernel
theorem dX9_init_42 : decode cX9_init 42 = .ok (.invokespecial 32, 3) := by decide +kernel
theorem dX9_init_45 : decode cX9_init 45 = .ok (.putfield 33, 3) := by decide +kernel
theorem dX9_init_48 : decode cX9_init 48 = .ok (.aload_n 0, 1) := by decide +kernel
theorem dX9_init_49 : decode cX9_init 49 = .ok (.aload_n 0, 1) := by decide +kernel
theorem dX9_init_50 : decode cX9_init 50 = .ok (.getfield 33, 3) := by decide +kernel
theorem dX9_init_53 : decode cX9_init 53 = .ok (.getfield 37, 3) := by decide +kernel
theorem dX9_init_56 : decode cX9_init 56 = .ok (.getfield 41, 3) := by decide +kernel
theorem dX9_init_59 : decode cX9_init 59 = .ok (.putfield 47, 3) := by decide +kernel
theorem dX9_init_62 : decode cX9_init 62 = .ok (.aload_n 0, 1) := by decide +kernel
theorem dX9_init_63 : decode cX9_init 63 = .ok (.aload_n 0, 1) := by decide +kernel
theorem dX9_init_64 : decode cX9_init 64 = .ok (.getfield 33, 3) := by decide +kernel
theorem dX9_init_67 : decode cX9_init 67 = .ok (.getfield 50, 3) := by decide +kernel
theorem dX9_init_70 : decode cX9_init 70 = .ok (.putfield 53, 3) := by decide +kernel
theorem dX9_init_73 : decode cX9_init 73 = .ok (.aload_n 0, 1) := by decide +kernel
theorem dX9_init_74 : decode cX9_init 74 = .ok (.new 56, 3) := by decide +kernel
theorem dX9_init_77 : decode cX9_init 77 = .ok (.dup, 1) := by decide +kernel
theorem dX9_init_78 : decode cX9_init 78 = .ok (.sipush 1024, 3) := by decide +kernel
theorem dX9_init_81 : decode cX9_init 81 = .ok (.invokespecial 58, 3) := by decide +kernel
theorem dX9_init_84 : decode cX9_init 84 = .ok (.putfield 61, 3) := by decide +kernel
theorem dX9_init_87 : decode cX9_init 87 = .ok (.aload_n 0, 1) := by decide +kernel
theorem dX9_init_88 : decode cX9_init 88 = .ok (.bipush (-2), 2) := by decide +kernel
theorem dX9_init_90 : decode cX9_init 90 = .ok (.putfield 64, 3) := by decide +kernel
theorem dX9_init_93 : decode cX9_init 93 = .ok (.aload_n 0, 1) := by decide +kernel
theorem dX9_init_94 : decode cX9_init 94 = .ok (.getfield 10, 3) := by decide +kernel
theorem dX9_init_97 : decode cX9_init 97 = .ok (.invokevirtual 68, 3) := by decide +kernel
theorem dX9_init_100 : decode cX9_init 100 = .ok (.return_, 1) := by decide +kernel
theorem dX9_append_0 : decode cX9_append 0 = .ok (.aload_n 0, 1) := by decide +kernel
theorem dX9_append_1 : decode cX9_append 1 = .ok (.getfield 47, 3) := by decide +kernel
theorem dX9_append_4 : decode cX9_append 4 = .ok (.getfield 71, 3) := by decide +kernel
theorem dX9_append_7 : decode cX9_append 7 = .ok (.sipush 1180, 3) := by decide +kernel
theorem dX9_append_10 : decode cX9_append 10 = .ok (.if_icmp .le 5, 3) := by decide +kernel
theorem dX9_append_13 : decode cX9_append 13 = .ok (.iconst (-1), 1) := by decide +kernel
theorem dX9_append_14 : decode cX9_append 14 = .ok (.ireturn, 1) := by decide +kernel
theorem dX9_append_15 : decode cX9_append 15 = .ok (.aload_n 0, 1) := by decide +kernel
theorem dX9_append_16 : decode cX9_append 16 = .ok (.getfield 47, 3) := by decide +kernel
theorem dX9_append_19 : decode cX9_append 19 = .ok (.iload_n 1, 1) := by decide +kernel
theorem dX9_append_20 : decode cX9_append 20 = .ok (.invokevirtual 74, 3) := by decide +kernel
theorem dX9_append_23 : decode cX9_append 23 = .ok (.aload_n 0, 1) := by decide +kernel
theorem dX9_append_24 : decode cX9_append 24 = .ok (.getfield 47, 3) := by decide +kernel
theorem dX9_append_27 : decode cX9_append 27 = .ok (.iload_n 2, 1) := by decide +kernel
theorem dX9_append_28 : decode cX9_append 28 = .ok (.invokevirtual 74, 3) := by decide +kernel
theorem dX9_append_31 : decode cX9_append 31 = .ok (.aload_n 0, 1) := by decide +kernel
theorem dX9_append_32 : decode cX9_append 32 = .ok (.getfield 47, 3) := by decide +kernel
theorem dX9_append_35 : decode cX9_append 35 = .ok (.iload_n 3, 1) := by decide +kernel
theorem dX9_append_36 : decode cX9_append 36 = .ok (.invokevirtual 74, 3) := by decide +kernel
theorem dX9_append_39 : decode cX9_append 39 = .ok (.aload_n 0, 1) := by decide +kernel
theorem dX9_append_40 : decode cX9_append 40 = .ok (.getfield 47, 3) := by decide +kernel
theorem dX9_append_43 : decode cX9_append 43 = .ok (.iload 4, 2) := by decide +kernel
theorem dX9_append_45 : decode cX9_append 45 = .ok (.invokevirtual 74, 3) := by decide +kernel
theorem dX9_append_48 : decode cX9_append 48 = .ok (.aload_n 0, 1) := by decide +kernel
theorem dX9_append_49 : decode cX9_append 49 = .ok (.getfield 47, 3) := by decide +kernel
theorem dX9_append_52 : decode cX9_append 52 = .ok (.iload 5, 2) := by decide +kernel
theorem dX9_append_54 : decode cX9_append 54 = .ok (.invokevirtual 74, 3) := by decide +kernel
theorem dX9_append_57 : decode cX9_append 57 = .ok (.aload_n 0, 1) := by decide +kernel
theorem dX9_append_58 : decode cX9_append 58 = .ok (.getfield 47, 3) := by decide +kernel
theorem dX9_append_61 : decode cX9_append 61 = .ok (.getfield 71, 3) := by decide +kernel
theorem dX9_append_64 : decode cX9_append 64 = .ok (.ireturn, 1) := by decide +kernel
theorem dX9_truncate_0 : decode cX9_truncate 0 = .ok (.iload_n 1, 1) := by decide +kernel
theorem dX9_truncate_1 : decode cX9_truncate 1 = .ok (.ifCond .lt 14, 3) := by decide +kernel
theorem dX9_truncate_4 : decode cX9_truncate 4 = .ok (.iload_n 1, 1) := by decide +kernel
theorem dX9_truncate_5 : decode cX9_truncate 5 = .ok (.aload_n 0, 1) := by decide +kernel
theorem dX9_truncate_6 : decode cX9_truncate 6 = .ok (.getfield 47, 3) := by decide +kernel
theorem dX9_truncate_9 : decode cX9_truncate 9 = .ok (.getfield 71, 3) := by decide +kernel
theorem dX9_truncate_12 : decode cX9_truncate 12 = .ok (.if_icmp .le 5, 3) := by decide +kernel
theorem dX9_truncate_15 : decode cX9_truncate 15 = .ok (.iconst (-1), 1) := by decide +kernel
theorem dX9_truncate_16 : decode cX9_truncate 16 = .ok (.ireturn, 1) := by decide +kernel
theorem dX9_truncate_17 : decode cX9_truncate 17 = .ok (.aload_n 0, 1) := by decide +kernel
theorem dX9_truncate_18 : decode cX9_truncate 18 = .ok (.getfield 47, 3) := by decide +kernel
theorem dX9_truncate_21 : decode cX9_truncate 21 = .ok (.dup, 1) := by decide +kernel
theorem dX9_truncate_22 : decode cX9_truncate 22 = .ok (.getfield 71, 3) := by decide +kernel
theorem dX9_truncate_25 : decode cX9_truncate 25 = .ok (.iload_n 1, 1) := by decide +kernel
theorem dX9_truncate_26 : decode cX9_truncate 26 = .ok (.isub, 1) := by decide +kernel
theorem dX9_truncate_27 : decode cX9_truncate 27 = .ok (.putfield 71, 3) := by decide +kernel
theorem dX9_truncate_30 : decode cX9_truncate 30 = .ok (.aload_n 0, 1) := by decide +kernel
theorem dX9_truncate_31 : decode cX9_truncate 31 = .ok (.getfield 47, 3) := by decide +kernel
theorem dX9_truncate_34 : decode cX9_truncate 34 = .ok (.getfield 71, 3) := by decide +kernel
theorem dX9_truncate_37 : decode cX9_truncate 37 = .ok (.ireturn, 1) := by decide +kernel
theorem dX9_load_0 : decode cX9_load 0 = .ok (.aload_n 0, 1) := by decide +kernel
theorem dX9_load_1 : decode cX9_load 1 = .ok (.aload_n 0, 1) := by decide +kernel
theorem dX9_load_2 : decode cX9_load 2 = .ok (.getfield 33, 3) := by decide +kernel
theorem dX9_load_5 : decode cX9_load 5 = .ok (.invokevirtual 77, 3) := by decide +kernel
theorem dX9_load_8 : decode cX9_load 8 = .ok (.putfield 64, 3) := by decide +kernel
theorem dX9_load_11 : decode cX9_load 11 = .ok (.aload_n 0, 1) := by decide +kernel
theorem dX9_load_12 : decode cX9_load 12 = .ok (.getfield 47, 3) := by decide +kernel
theorem dX9_load_15 : decode cX9_load 15 = .ok (.iconst 0, 1) := by decide +kernel
theorem dX9_load_16 : decode cX9_load 16 = .ok (.putfield 71, 3) := by decide +kernel
theorem dX9_load_19 : decode cX9_load 19 = .ok (.aload_n 0, 1) := by decide +kernel
theorem dX9_load_20 : decode cX9_load 20 = .ok (.getfield 64, 3) := by decide +kernel
theorem dX9_load_23 : decode cX9_load 23 = .ok (.bipush (-2), 2) := by decide +kernel
theorem dX9_load_25 : decode cX9_load 25 = .ok (.if_icmp .eq 5, 3) := by decide +kernel
theorem dX9_load_28 : decode cX9_load 28 = .ok (.iconst (-1), 1) := by decide +kernel
theorem dX9_load_29 : decode cX9_load 29 = .ok (.ireturn, 1) := by decide +kernel
theorem dX9_load_30 : decode cX9_load 30 = .ok (.aload_n 0, 1) := by decide +kernel
theorem dX9_load_31 : decode cX9_load 31 = .ok (.getfield 10, 3) := by decide +kernel
theorem dX9_load_34 : decode cX9_load 34 = .ok (.aload_n 0, 1) := by decide +kernel
theorem dX9_load_35 : decode cX9_load 35 = .ok (.getfield 33, 3) := by decide +kernel
theorem dX9_load_38 : decode cX9_load 38 = .ok (.getfield 50, 3) := by decide +kernel
theorem dX9_load_41 : decode cX9_load 41 = .ok (.invokevirtual 81, 3) := by decide +kernel
theorem dX9_load_44 : decode cX9_load 44 = .ok (.aload_n 0, 1) := by decide +kernel
theorem dX9_load_45 : decode cX9_load 45 = .ok (.getfield 26, 3) := by decide +kernel
theorem dX9_load_48 : decode cX9_load 48 = .ok (.invokevirtual 85, 3) := by decide +kernel
theorem dX9_load_51 : decode cX9_load 51 = .ok (.aload_n 0, 1) := by decide +kernel
theorem dX9_load_52 : decode cX9_load 52 = .ok (.getfield 19, 3) := by decide +kernel
theorem dX9_load_55 : decode cX9_load 55 = .ok (.invokevirtual 88, 3) := by decide +kernel
theorem dX9_load_58 : decode cX9_load 58 = .ok (.aload_n 0, 1) := by decide +kernel
theorem dX9_load_59 : decode cX9_load 59 = .ok (.getfield 10, 3) := by decide +kernel
theorem dX9_load_62 : decode cX9_load 62 = .ok (.getfield 89, 3) := by decide +kernel
theorem dX9_load_65 : decode cX9_load 65 = .ok (.getfield 93, 3) := by decide +kernel
theorem dX9_load_68 : decode cX9_load 68 = .ok (.ireturn, 1) := by decide +kernel
theorem dX9_errorPosition_0 : decode cX9_errorPosition 0 = .ok (.aload_n 0, 1) := by decide +kernel
theorem dX9_errorPosition_1 : decode cX9_errorPosition 1 = .ok (.getfield 64, 3) := by decide +kernel
theorem dX9_errorPosition_4 : decode cX9_errorPosition 4 = .ok (.ireturn, 1) := by decide +kernel
theorem dX9_letter_0 : decode cX9_letter 0 = .ok (.aload_n 0, 1) := by decide +kernel
theorem dX9_letter_1 : decode cX9_letter 1 = .ok (.getfield 10, 3) := by decide +kernel
theorem dX9_letter_4 : decode cX9_letter 4 = .ok (.getfield 89, 3) := by decide +kernel
theorem dX9_letter_7 : decode cX9_letter 7 = .ok (.astore 4, 2) := by decide +kernel
theorem dX9_letter_9 : decode cX9_letter 9 = .ok (.aload 4, 2) := by decide +kernel
theorem dX9_letter_11 : decode cX9_letter 11 = .ok (.iload_n 1, 1) := by decide +kernel
theorem dX9_letter_12 : decode cX9_letter 12 = .ok (.invokevirtual 98, 3) := by decide +kernel
theorem dX9_letter_15 : decode cX9_letter 15 = .ok (.ifCond .eq 17, 3) := by decide +kernel
theorem dX9_letter_18 : decode cX9_letter 18 = .ok (.aload 4, 2) := by decide +kernel
theorem dX9_letter_20 : decode cX9_letter 20 = .ok (.iload_n 2, 1) := by decide +kernel
theorem dX9_letter_21 : decode cX9_letter 21 = .ok (.invokevirtual 98, 3) := by decide +kernel
theorem dX9_letter_24 : decode cX9_letter 24 = .ok (.ifCond .eq 8, 3) := by decide +kernel
theorem dX9_letter_27 : decode cX9_letter 27 = .ok (.iload_n 1, 1) := by decide +kernel
theorem dX9_letter_28 : decode cX9_letter 28 = .ok (.iload_n 2, 1) := by decide +kernel
theorem dX9_letter_29 : decode cX9_letter 29 = .ok (.if_icmp .ne 5, 3) := by decide +kernel
theorem dX9_letter_32 : decode cX9_letter 32 = .ok (.iconst (-1), 1) := by decide +kernel
theorem dX9_letter_33 : decode cX9_letter 33 = .ok (.ireturn, 1) := by decide +kernel
theorem dX9_letter_34 : decode cX9_letter 34 = .ok (.iload_n 3, 1) := by decide +kernel
theorem dX9_letter_35 : decode cX9_letter 35 = .ok (.iconst 1, 1) := by decide +kernel
theorem dX9_letter_36 : decode cX9_letter 36 = .ok (.bipush 9, 2) := by decide +kernel
theorem dX9_letter_38 : decode cX9_letter 38 = .ok (.invokestatic 102, 3) := by decide +kernel
theorem dX9_letter_41 : decode cX9_letter 41 = .ok (.ifCond .ne 5, 3) := by decide +kernel
theorem dX9_letter_44 : decode cX9_letter 44 = .ok (.iconst (-1), 1) := by decide +kernel
theorem dX9_letter_45 : decode cX9_letter 45 = .ok (.ireturn, 1) := by decide +kernel
theorem dX9_letter_46 : decode cX9_letter 46 = .ok (.aload 4, 2) := by decide +kernel
theorem dX9_letter_48 : decode cX9_letter 48 = .ok (.getfield 106, 3) := by decide +kernel
theorem dX9_letter_51 : decode cX9_letter 51 = .ok (.iload_n 1, 1) := by decide +kernel
theorem dX9_letter_52 : decode cX9_letter 52 = .ok (.invokestatic 110, 3) := by decide +kernel
theorem dX9_letter_55 : decode cX9_letter 55 = .ok (.bipush 6, 2) := by decide +kernel
theorem dX9_letter_57 : decode cX9_letter 57 = .ok (.if_icmp .lt 6, 3) := by decide +kernel
theorem dX9_letter_60 : decode cX9_letter 60 = .ok (.bipush (-3), 2) := by decide +kernel
theorem dX9_letter_62 : decode cX9_letter 62 = .ok (.ireturn, 1) := by decide +kernel
theorem dX9_letter_63 : decode cX9_letter 63 = .ok (.aload_n 0, 1) := by decide +kernel
theorem dX9_letter_64 : decode cX9_letter 64 = .ok (.getfield 19, 3) := by decide +kernel
theorem dX9_letter_67 : decode cX9_letter 67 = .ok (.aload_n 0, 1) := by decide +kernel
theorem dX9_letter_68 : decode cX9_letter 68 = .ok (.getfield 10, 3) := by decide +kernel
theorem dX9_letter_71 : decode cX9_letter 71 = .ok (.invokevirtual 114, 3) := by decide +kernel
theorem dX9_letter_74 : decode cX9_letter 74 = .ok (.aload 4, 2) := by decide +kernel
theorem dX9_letter_76 : decode cX9_letter 76 = .ok (.iload_n 1, 1) := by decide +kernel
theorem dX9_letter_77 : decode cX9_letter 77 = .ok (.iload_n 2, 1) := by decide +kernel
theorem dX9_letter_78 : decode cX9_letter 78 = .ok (.iload_n 3, 1) := by decide +kernel
theorem dX9_letter_79 : decode cX9_letter 79 = .ok (.invokevirtual 117, 3) := by decide +kernel
theorem dX9_letter_82 : decode cX9_letter 82 = .ok (.aload_n 0, 1) := by decide +kernel
theorem dX9_letter_83 : decode cX9_letter 83 = .ok (.getfield 10, 3) := by decide +kernel
theorem dX9_letter_86 : decode cX9_letter 86 = .ok (.getfield 121, 3) := by decide +kernel
theorem dX9_letter_89 : decode cX9_letter 89 = .ok (.iconst 0, 1) := by decide +kernel
theorem dX9_letter_90 : decode cX9_letter 90 = .ok (.invokestatic 124, 3) := by decide +kernel
theorem dX9_letter_93 : decode cX9_letter 93 = .ok (.aload_n 0, 1) := by decide +kernel
theorem dX9_letter_94 : decode cX9_letter 94 = .ok (.getfield 10, 3) := by decide +kernel
theorem dX9_letter_97 : decode cX9_letter 97 = .ok (.getfield 128, 3) := by decide +kernel
theorem dX9_letter_100 : decode cX9_letter 100 = .ok (.iconst 0, 1) := by decide +kernel
theorem dX9_letter_101 : decode cX9_letter 101 = .ok (.iload_n 1, 1) := by decide +kernel
theorem dX9_letter_102 : decode cX9_letter 102 = .ok (.iload_n 3, 1) := by decide +kernel
theorem dX9_letter_103 : decode cX9_letter 103 = .ok (.invokevirtual 132, 3) := by decide +kernel
theorem dX9_letter_106 : decode cX9_letter 106 = .ok (.aload 4, 2) := by decide +kernel
theorem dX9_letter_108 : decode cX9_letter 108 = .ok (.getfield 106, 3) := by decide +kernel
theorem dX9_letter_111 : decode cX9_letter 111 = .ok (.iload_n 1, 1) := by decide +kernel
theorem dX9_letter_112 : decode cX9_letter 112 = .ok (.invokestatic 110, 3) := by decide +kernel
theorem dX9_letter_115 : decode cX9_letter 115 = .ok (.ireturn, 1) := by decide +kernel
theorem dX9_cancel_0 : decode cX9_cancel 0 = .ok (.aload_n 0, 1) := by decide +kernel
theorem dX9_cancel_1 : decode cX9_cancel 1 = .ok (.getfield 10, 3) := by decide +kernel
theorem dX9_cancel_4 : decode cX9_cancel 4 = .ok (.getfield 89, 3) := by decide +kernel
theorem dX9_cancel_7 : decode cX9_cancel 7 = .ok (.astore_n 3, 1) := by decide +kernel
theorem dX9_cancel_8 : decode cX9_cancel 8 = .ok (.aload_n 3, 1) := by decide +kernel
theorem dX9_cancel_9 : decode cX9_cancel 9 = .ok (.iload_n 1, 1) := by decide +kernel
theorem dX9_cancel_10 : decode cX9_cancel 10 = .ok (.invokevirtual 98, 3) := by decide +kernel
theorem dX9_cancel_13 : decode cX9_cancel 13 = .ok (.ifCond .eq 7, 3) := by decide +kernel
theorem dX9_cancel_16 : decode cX9_cancel 16 = .ok (.iload_n 2, 1) := by decide +kernel
theorem dX9_cancel_17 : decode cX9_cancel 17 = .ok (.ifCond .ge 5, 3) := by decide +kernel
theorem dX9_cancel_20 : decode cX9_cancel 20 = .ok (.iconst (-1), 1) := by decide +kernel
theorem dX9_cancel_21 : decode cX9_cancel 21 = .ok (.ireturn, 1) := by decide +kernel
theorem dX9_cancel_22 : decode cX9_cancel 22 = .ok (.iload_n 2, 1) := by decide +kernel
theorem dX9_cancel_23 : decode cX9_cancel 23 = .ok (.aload_n 3, 1) := by decide +kernel
theorem dX9_cancel_24 : decode cX9_cancel 24 = .ok (.getfield 106, 3) := by decide +kernel
theorem dX9_cancel_27 : decode cX9_cancel 27 = .ok (.iload_n 1, 1) := by decide +kernel
theorem dX9_cancel_28 : decode cX9_cancel 28 = .ok (.invokestatic 110, 3) := by decide +kernel
theorem dX9_cancel_31 : decode cX9_cancel 31 = .ok (.if_icmp .lt 6, 3) := by decide +kernel
theorem dX9_cancel_34 : decode cX9_cancel 34 = .ok (.bipush (-2), 2) := by decide +kernel
theorem dX9_cancel_36 : decode cX9_cancel 36 = .ok (.ireturn, 1) := by decide +kernel
theorem dX9_cancel_37 : decode cX9_cancel 37 = .ok (.iload_n 2, 1) := by decide +kernel
theorem dX9_cancel_38 : decode cX9_cancel 38 = .ok (.ifCond .ne 20, 3) := by decide +kernel
theorem dX9_cancel_41 : decode cX9_cancel 41 = .ok (.aload_n 0, 1) := by decide +kernel
theorem dX9_cancel_42 : decode cX9_cancel 42 = .ok (.getfield 10, 3) := by decide +kernel
theorem dX9_cancel_45 : decode cX9_cancel 45 = .ok (.getfield 137, 3) := by decide +kernel
theorem dX9_cancel_48 : decode cX9_cancel 48 = .ok (.iload_n 1, 1) := by decide +kernel
theorem dX9_cancel_49 : decode cX9_cancel 49 = .ok (.invokevirtual 141, 3) := by decide +kernel
theorem dX9_cancel_52 : decode cX9_cancel 52 = .ok (.ifCond .le 6, 3) := by decide +kernel
theorem dX9_cancel_55 : decode cX9_cancel 55 = .ok (.bipush (-4), 2) := by decide +kernel
theorem dX9_cancel_57 : decode cX9_cancel 57 = .ok (.ireturn, 1) := by decide +kernel
theorem dX9_cancel_58 : decode cX9_cancel 58 = .ok (.aload_n 0, 1) := by decide +kernel
theorem dX9_cancel_59 : decode cX9_cancel 59 = .ok (.getfield 19, 3) := by decide +kernel
theorem dX9_cancel_62 : decode cX9_cancel 62 = .ok (.aload_n 0, 1) := by decide +kernel
theorem dX9_cancel_63 : decode cX9_cancel 63 = .ok (.getfield 10, 3) := by decide +kernel
theorem dX9_cancel_66 : decode cX9_cancel 66 = .ok (.invokevirtual 114, 3) := by decide +kernel
theorem dX9_cancel_69 : decode cX9_cancel 69 = .ok (.aload_n 3, 1) := by decide +kernel
theorem dX9_cancel_70 : decode cX9_cancel 70 = .ok (.iload_n 1, 1) := by decide +kernel
theorem dX9_cancel_71 : decode cX9_cancel 71 = .ok (.iload_n 2, 1) := by decide +kernel
theorem dX9_cancel_72 : decode cX9_cancel 72 = .ok (.invokevirtual 147, 3) := by decide +kernel
theorem dX9_cancel_75 : decode cX9_cancel 75 = .ok (.istore 4, 2) := by decide +kernel
theorem dX9_cancel_77 : decode cX9_cancel 77 = .ok (.aload_n 3, 1) := by decide +kernel
theorem dX9_cancel_78 : decode cX9_cancel 78 = .ok (.iload_n 1, 1) := by decide +kernel
theorem dX9_cancel_79 : decode cX9_cancel 79 = .ok (.iload_n 2, 1) := by decide +kernel
theorem dX9_cancel_80 : decode cX9_cancel 80 = .ok (.invokevirtual 151, 3) := by decide +kernel
theorem dX9_cancel_83 : decode cX9_cancel 83 = .ok (.aload_n 0, 1) := by decide +kernel
theorem dX9_cancel_84 : decode cX9_cancel 84 = .ok (.getfield 10, 3) := by decide +kernel
theorem dX9_cancel_87 : decode cX9_cancel 87 = .ok (.getfield 121, 3) := by decide +kernel
theorem dX9_cancel_90 : decode cX9_cancel 90 = .ok (.iconst 3, 1) := by decide +kernel
theorem dX9_cancel_91 : decode cX9_cancel 91 = .ok (.invokestatic 124, 3) := by decide +kernel
theorem dX9_cancel_94 : decode cX9_cancel 94 = .ok (.aload_n 0, 1) := by decide +kernel
theorem dX9_cancel_95 : decode cX9_cancel 95 = .ok (.getfield 10, 3) := by decide +kernel
theorem dX9_cancel_98 : decode cX9_cancel 98 = .ok (.getfield 128, 3) := by decide +kernel
theorem dX9_cancel_101 : decode cX9_cancel 101 = .ok (.bipush 9, 2) := by decide +kernel
theorem dX9_cancel_103 : decode cX9_cancel 103 = .ok (.iload_n 1, 1) := by decide +kernel
theorem dX9_cancel_104 : decode cX9_cancel 104 = .ok (.iload 4, 2) := by decide +kernel
theorem dX9_cancel_106 : decode cX9_cancel 106 = .ok (.invokevirtual 132, 3) := by decide +kernel
theorem dX9_cancel_109 : decode cX9_cancel 109 = .ok (.aload_n 3, 1) := by decide +kernel
theorem dX9_cancel_110 : decode cX9_cancel 110 = .ok (.getfield 106, 3) := by decide +kernel
theorem dX9_cancel_113 : decode cX9_cancel 113 = .ok (.iload_n 1, 1) := by decide +kernel
theorem dX9_cancel_114 : decode cX9_cancel 114 = .ok (.invokestatic 110, 3) := by decide +kernel
theorem dX9_cancel_117 : decode cX9_cancel 117 = .ok (.ireturn, 1) := by decide +kernel
theorem dX9_shut_0 : decode cX9_shut 0 = .ok (.aload_n 0, 1) := by decide +kernel
theorem dX9_shut_1 : decode cX9_shut 1 = .ok (.getfield 10, 3) := by decide +kernel
theorem dX9_shut_4 : decode cX9_shut 4 = .ok (.getfield 89, 3) := by decide +kernel
theorem dX9_shut_7 : decode cX9_shut 7 = .ok (.iload_n 1, 1) := by decide +kernel
theorem dX9_shut_8 : decode cX9_shut 8 = .ok (.invokevirtual 98, 3) := by decide +kernel
theorem dX9_shut_11 : decode cX9_shut 11 = .ok (.ifCond .eq 12, 3) := by decide +kernel
theorem dX9_shut_14 : decode cX9_shut 14 = .ok (.iload_n 2, 1) := by decide +kernel
theorem dX9_shut_15 : decode cX9_shut 15 = .ok (.iconst 0, 1) := by decide +kernel
theorem dX9_shut_16 : decode cX9_shut 16 = .ok (.iconst 1, 1) := by decide +kernel
theorem dX9_shut_17 : decode cX9_shut 17 = .ok (.invokestatic 102, 3) := by decide +kernel
theorem dX9_shut_20 : decode cX9_shut 20 = .ok (.ifCond .ne 5, 3) := by decide +kernel
theorem dX9_shut_23 : decode cX9_shut 23 = .ok (.iconst (-1), 1) := by decide +kernel
theorem dX9_shut_24 : decode cX9_shut 24 = .ok (.ireturn, 1) := by decide +kernel
theorem dX9_shut_25 : decode cX9_shut 25 = .ok (.aload_n 0, 1) := by decide +kernel
theorem dX9_shut_26 : decode cX9_shut 26 = .ok (.getfield 10, 3) := by decide +kernel
theorem dX9_shut_29 : decode cX9_shut 29 = .ok (.getfield 89, 3) := by decide +kernel
theorem dX9_shut_32 : decode cX9_shut 32 = .ok (.getfield 155, 3) := by decide +kernel
theorem dX9_shut_35 : decode cX9_shut 35 = .ok (.iload_n 1, 1) := by decide +kernel
theorem dX9_shut_36 : decode cX9_shut 36 = .ok (.invokestatic 110, 3) := by decide +kernel
theorem dX9_shut_39 : decode cX9_shut 39 = .ok (.iload_n 2, 1) := by decide +kernel
theorem dX9_shut_40 : decode cX9_shut 40 = .ok (.if_icmp .ne 6, 3) := by decide +kernel
theorem dX9_shut_43 : decode cX9_shut 43 = .ok (.bipush (-2), 2) := by decide +kernel
theorem dX9_shut_45 : decode cX9_shut 45 = .ok (.ireturn, 1) := by decide +kernel
theorem dX9_shut_46 : decode cX9_shut 46 = .ok (.aload_n 0, 1) := by decide +kernel
theorem dX9_shut_47 : decode cX9_shut 47 = .ok (.getfield 19, 3) := by decide +kernel
theorem dX9_shut_50 : decode cX9_shut 50 = .ok (.aload_n 0, 1) := by decide +kernel
theorem dX9_shut_51 : decode cX9_shut 51 = .ok (.getfield 10, 3) := by decide +kernel
theorem dX9_shut_54 : decode cX9_shut 54 = .ok (.invokevirtual 114, 3) := by decide +kernel
theorem dX9_shut_57 : decode cX9_shut 57 = .ok (.aload_n 0, 1) := by decide +kernel
theorem dX9_shut_58 : decode cX9_shut 58 = .ok (.getfield 10, 3) := by decide +kernel
theorem dX9_shut_61 : decode cX9_shut 61 = .ok (.getfield 121, 3) := by decide +kernel
theorem dX9_shut_64 : decode cX9_shut 64 = .ok (.bipush 6, 2) := by decide +kernel
theorem dX9_shut_66 : decode cX9_shut 66 = .ok (.invokestatic 110, 3) := by decide +kernel
theorem dX9_shut_69 : decode cX9_shut 69 = .ok (.istore_n 3, 1) := by decide +kernel
theorem dX9_shut_70 : decode cX9_shut 70 = .ok (.aload_n 0, 1) := by decide +kernel
theorem dX9_shut_71 : decode cX9_shut 71 = .ok (.getfield 10, 3) := by decide +kernel
theorem dX9_shut_74 : decode cX9_shut 74 = .ok (.iload_n 1, 1) := by decide +kernel
theorem dX9_shut_75 : decode cX9_shut 75 = .ok (.iload_n 2, 1) := by decide +kernel
theorem dX9_shut_76 : decode cX9_shut 76 = .ok (.invokevirtual 158, 3) := by decide +kernel
theorem dX9_shut_79 : decode cX9_shut 79 = .ok (.aload_n 0, 1) := by decide +kernel
theorem dX9_shut_80 : decode cX9_shut 80 = .ok (.getfield 10, 3) := by decide +kernel
theorem dX9_shut_83 : decode cX9_shut 83 = .ok (.getfield 121, 3) := by decide +kernel
theorem dX9_shut_86 : decode cX9_shut 86 = .ok (.bipush 6, 2) := by decide +kernel
theorem dX9_shut_88 : decode cX9_shut 88 = .ok (.invokestatic 110, 3) := by decide +kernel
theorem dX9_shut_91 : decode cX9_shut 91 = .ok (.iload_n 3, 1) := by decide +kernel
theorem dX9_shut_92 : decode cX9_shut 92 = .ok (.isub, 1) := by decide +kernel
theorem dX9_shut_93 : decode cX9_shut 93 = .ok (.ireturn, 1) := by decide +kernel
theorem dX9_lose_0 : decode cX9_lose 0 = .ok (.aload_n 0, 1) := by decide +kernel
theorem dX9_lose_1 : decode cX9_lose 1 = .ok (.getfield 10, 3) := by decide +kernel
theorem dX9_lose_4 : decode cX9_lose 4 = .ok (.getfield 137, 3) := by decide +kernel
theorem dX9_lose_7 : decode cX9_lose 7 = .ok (.iload_n 1, 1) := by decide +kernel
theorem dX9_lose_8 : decode cX9_lose 8 = .ok (.invokevirtual 161, 3) := by decide +kernel
theorem dX9_lose_11 : decode cX9_lose 11 = .ok (.ifCond .ne 5, 3) := by decide +kernel
theorem dX9_lose_14 : decode cX9_lose 14 = .ok (.iconst (-1), 1) := by decide +kernel
theorem dX9_lose_15 : decode cX9_lose 15 = .ok (.ireturn, 1) := by decide +kernel
theorem dX9_lose_16 : decode cX9_lose 16 = .ok (.aload_n 0, 1) := by decide +kernel
theorem dX9_lose_17 : decode cX9_lose 17 = .ok (.getfield 19, 3) := by decide +kernel
theorem dX9_lose_20 : decode cX9_lose 20 = .ok (.aload_n 0, 1) := by decide +kernel
theorem dX9_lose_21 : decode cX9_lose 21 = .ok (.getfield 10, 3) := by decide +kernel
theorem dX9_lose_24 : decode cX9_lose 24 = .ok (.invokevirtual 114, 3) := by decide +kernel
theorem dX9_lose_27 : decode cX9_lose 27 = .ok (.aload_n 0, 1) := by decide +kernel
theorem dX9_lose_28 : decode cX9_lose 28 = .ok (.getfield 10, 3) := by decide +kernel
theorem dX9_lose_31 : decode cX9_lose 31 = .ok (.getfield 137, 3) := by decide +kernel
theorem dX9_lose_34 : decode cX9_lose 34 = .ok (.getfield 162, 3) := by decide +kernel
theorem dX9_lose_37 : decode cX9_lose 37 = .ok (.iload_n 1, 1) := by decide +kernel
theorem dX9_lose_38 : decode cX9_lose 38 = .ok (.invokestatic 110, 3) := by decide +kernel
theorem dX9_lose_41 : decode cX9_lose 41 = .ok (.istore_n 2, 1) := by decide +kernel
theorem dX9_lose_42 : decode cX9_lose 42 = .ok (.aload_n 0, 1) := by decide +kernel
theorem dX9_lose_43 : decode cX9_lose 43 = .ok (.getfield 10, 3) := by decide +kernel
theorem dX9_lose_46 : decode cX9_lose 46 = .ok (.iload_n 1, 1) := by decide +kernel
theorem dX9_lose_47 : decode cX9_lose 47 = .ok (.invokevirtual 165, 3) := by decide +kernel
theorem dX9_lose_50 : decode cX9_lose 50 = .ok (.iload_n 2, 1) := by decide +kernel
theorem dX9_lose_51 : decode cX9_lose 51 = .ok (.ireturn, 1) := by decide +kernel
theorem dX9_stray_0 : decode cX9_stray 0 = .ok (.aload_n 0, 1) := by decide +kernel
theorem dX9_stray_1 : decode cX9_stray 1 = .ok (.getfield 10, 3) := by decide +kernel
theorem dX9_stray_4 : decode cX9_stray 4 = .ok (.getfield 89, 3) := by decide +kernel
theorem dX9_stray_7 : decode cX9_stray 7 = .ok (.iload_n 1, 1) := by decide +kernel
theorem dX9_stray_8 : decode cX9_stray 8 = .ok (.invokevirtual 98, 3) := by decide +kernel
theorem dX9_stray_11 : decode cX9_stray 11 = .ok (.ifCond .ne 5, 3) := by decide +kernel
theorem dX9_stray_14 : decode cX9_stray 14 = .ok (.iconst (-1), 1) := by decide +kernel
theorem dX9_stray_15 : decode cX9_stray 15 = .ok (.ireturn, 1) := by decide +kernel
theorem dX9_stray_16 : decode cX9_stray 16 = .ok (.aload_n 0, 1) := by decide +kernel
theorem dX9_stray_17 : decode cX9_stray 17 = .ok (.getfield 10, 3) := by decide +kernel
theorem dX9_stray_20 : decode cX9_stray 20 = .ok (.getfield 89, 3) := by decide +kernel
theorem dX9_stray_23 : decode cX9_stray 23 = .ok (.iload_n 1, 1) := by decide +kernel
theorem dX9_stray_24 : decode cX9_stray 24 = .ok (.invokevirtual 168, 3) := by decide +kernel
theorem dX9_stray_27 : decode cX9_stray 27 = .ok (.ifCond .ne 6, 3) := by decide +kernel
theorem dX9_stray_30 : decode cX9_stray 30 = .ok (.bipush (-4), 2) := by decide +kernel
theorem dX9_stray_32 : decode cX9_stray 32 = .ok (.ireturn, 1) := by decide +kernel
theorem dX9_stray_33 : decode cX9_stray 33 = .ok (.aload_n 0, 1) := by decide +kernel
theorem dX9_stray_34 : decode cX9_stray 34 = .ok (.getfield 10, 3) := by decide +kernel
theorem dX9_stray_37 : decode cX9_stray 37 = .ok (.getfield 137, 3) := by decide +kernel
theorem dX9_stray_40 : decode cX9_stray 40 = .ok (.getfield 171, 3) := by decide +kernel
theorem dX9_stray_43 : decode cX9_stray 43 = .ok (.iconst 3, 1) := by decide +kernel
theorem dX9_stray_44 : decode cX9_stray 44 = .ok (.if_icmp .lt 6, 3) := by decide +kernel
theorem dX9_stray_47 : decode cX9_stray 47 = .ok (.bipush (-3), 2) := by decide +kernel
theorem dX9_stray_49 : decode cX9_stray 49 = .ok (.ireturn, 1) := by decide +kernel
theorem dX9_stray_50 : decode cX9_stray 50 = .ok (.aload_n 0, 1) := by decide +kernel
theorem dX9_stray_51 : decode cX9_stray 51 = .ok (.getfield 19, 3) := by decide +kernel
theorem dX9_stray_54 : decode cX9_stray 54 = .ok (.aload_n 0, 1) := by decide +kernel
theorem dX9_stray_55 : decode cX9_stray 55 = .ok (.getfield 10, 3) := by decide +kernel
theorem dX9_stray_58 : decode cX9_stray 58 = .ok (.invokevirtual 114, 3) := by decide +kernel
theorem dX9_stray_61 : decode cX9_stray 61 = .ok (.aload_n 0, 1) := by decide +kernel
theorem dX9_stray_62 : decode cX9_stray 62 = .ok (.getfield 10, 3) := by decide +kernel
theorem dX9_stray_65 : decode cX9_stray 65 = .ok (.getfield 137, 3) := by decide +kernel
theorem dX9_stray_68 : decode cX9_stray 68 = .ok (.iload_n 1, 1) := by decide +kernel
theorem dX9_stray_69 : decode cX9_stray 69 = .ok (.invokevirtual 172, 3) := by decide +kernel
theorem dX9_stray_72 : decode cX9_stray 72 = .ok (.aload_n 0, 1) := by decide +kernel
theorem dX9_stray_73 : decode cX9_stray 73 = .ok (.getfield 10, 3) := by decide +kernel
theorem dX9_stray_76 : decode cX9_stray 76 = .ok (.getfield 137, 3) := by decide +kernel
theorem dX9_stray_79 : decode cX9_stray 79 = .ok (.getfield 174, 3) := by decide +kernel
theorem dX9_stray_82 : decode cX9_stray 82 = .ok (.istore_n 2, 1) := by decide +kernel
theorem dX9_stray_83 : decode cX9_stray 83 = .ok (.aload_n 0, 1) := by decide +kernel
theorem dX9_stray_84 : decode cX9_stray 84 = .ok (.getfield 10, 3) := by decide +kernel
theorem dX9_stray_87 : decode cX9_stray 87 = .ok (.getfield 128, 3) := by decide +kernel
theorem dX9_stray_90 : decode cX9_stray 90 = .ok (.bipush 6, 2) := by decide +kernel
theorem dX9_stray_92 : decode cX9_stray 92 = .ok (.iload_n 2, 1) := by decide +kernel
theorem dX9_stray_93 : decode cX9_stray 93 = .ok (.iload_n 1, 1) := by decide +kernel
theorem dX9_stray_94 : decode cX9_stray 94 = .ok (.invokevirtual 132, 3) := by decide +kernel
theorem dX9_stray_97 : decode cX9_stray 97 = .ok (.aload_n 0, 1) := by decide +kernel
theorem dX9_stray_98 : decode cX9_stray 98 = .ok (.getfield 10, 3) := by decide +kernel
theorem dX9_stray_101 : decode cX9_stray 101 = .ok (.invokevirtual 177, 3) := by decide +kernel
theorem dX9_stray_104 : decode cX9_stray 104 = .ok (.iload_n 2, 1) := by decide +kernel
theorem dX9_stray_105 : decode cX9_stray 105 = .ok (.ireturn, 1) := by decide +kernel
theorem dX9_minute_0 : decode cX9_minute 0 = .ok (.iload_n 1, 1) := by decide +kernel
theorem dX9_minute_1 : decode cX9_minute 1 = .ok (.iconst 1, 1) := by decide +kernel
theorem dX9_minute_2 : decode cX9_minute 2 = .ok (.bipush 100, 2) := by decide +kernel
theorem dX9_minute_4 : decode cX9_minute 4 = .ok (.invokestatic 102, 3) := by decide +kernel
theorem dX9_minute_7 : decode cX9_minute 7 = .ok (.ifCond .ne 5, 3) := by decide +kernel
theorem dX9_minute_10 : decode cX9_minute 10 = .ok (.iconst (-1), 1) := by decide +kernel
theorem dX9_minute_11 : decode cX9_minute 11 = .ok (.ireturn, 1) := by decide +kernel
theorem dX9_minute_12 : decode cX9_minute 12 = .ok (.aload_n 0, 1) := by decide +kernel
theorem dX9_minute_13 : decode cX9_minute 13 = .ok (.getfield 10, 3) := by decide +kernel
theorem dX9_minute_16 : decode cX9_minute 16 = .ok (.getfield 180, 3) := by decide +kernel
theorem dX9_minute_19 : decode cX9_minute 19 = .ok (.sipush 9999, 3) := by decide +kernel
theorem dX9_minute_22 : decode cX9_minute 22 = .ok (.iload_n 1, 1) := by decide +kernel
theorem dX9_minute_23 : decode cX9_minute 23 = .ok (.isub, 1) := by decide +kernel
theorem dX9_minute_24 : decode cX9_minute 24 = .ok (.if_icmp .le 6, 3) := by decide +kernel
theorem dX9_minute_27 : decode cX9_minute 27 = .ok (.bipush (-3), 2) := by decide +kernel
theorem dX9_minute_29 : decode cX9_minute 29 = .ok (.ireturn, 1) := by decide +kernel
theorem dX9_minute_30 : decode cX9_minute 30 = .ok (.aload_n 0, 1) := by decide +kernel
theorem dX9_minute_31 : decode cX9_minute 31 = .ok (.getfield 19, 3) := by decide +kernel
theorem dX9_minute_34 : decode cX9_minute 34 = .ok (.aload_n 0, 1) := by decide +kernel
theorem dX9_minute_35 : decode cX9_minute 35 = .ok (.getfield 10, 3) := by decide +kernel
theorem dX9_minute_38 : decode cX9_minute 38 = .ok (.invokevirtual 114, 3) := by decide +kernel
theorem dX9_minute_41 : decode cX9_minute 41 = .ok (.aload_n 0, 1) := by decide +kernel
theorem dX9_minute_42 : decode cX9_minute 42 = .ok (.getfield 10, 3) := by decide +kernel
theorem dX9_minute_45 : decode cX9_minute 45 = .ok (.getfield 121, 3) := by decide +kernel
theorem dX9_minute_48 : decode cX9_minute 48 = .ok (.iconst 1, 1) := by decide +kernel
theorem dX9_minute_49 : decode cX9_minute 49 = .ok (.invokestatic 110, 3) := by decide +kernel
theorem dX9_minute_52 : decode cX9_minute 52 = .ok (.istore_n 2, 1) := by decide +kernel
theorem dX9_minute_53 : decode cX9_minute 53 = .ok (.iconst 0, 1) := by decide +kernel
theorem dX9_minute_54 : decode cX9_minute 54 = .ok (.istore_n 3, 1) := by decide +kernel
theorem dX9_minute_55 : decode cX9_minute 55 = .ok (.iload_n 3, 1) := by decide +kernel
theorem dX9_minute_56 : decode cX9_minute 56 = .ok (.iload_n 1, 1) := by decide +kernel
theorem dX9_minute_57 : decode cX9_minute 57 = .ok (.if_icmp .ge 16, 3) := by decide +kernel
theorem dX9_minute_60 : decode cX9_minute 60 = .ok (.aload_n 0, 1) := by decide +kernel
theorem dX9_minute_61 : decode cX9_minute 61 = .ok (.getfield 10, 3) := by decide +kernel
theorem dX9_minute_64 : decode cX9_minute 64 = .ok (.invokevirtual 183, 3) := by decide +kernel
theorem dX9_minute_67 : decode cX9_minute 67 = .ok (.iinc 3 1, 3) := by decide +kernel
theorem dX9_minute_70 : decode cX9_minute 70 = .ok (.goto (-15), 3) := by decide +kernel
theorem dX9_minute_73 : decode cX9_minute 73 = .ok (.aload_n 0, 1) := by decide +kernel
theorem dX9_minute_74 : decode cX9_minute 74 = .ok (.getfield 10, 3) := by decide +kernel
theorem dX9_minute_77 : decode cX9_minute 77 = .ok (.getfield 121, 3) := by decide +kernel
theorem dX9_minute_80 : decode cX9_minute 80 = .ok (.iconst 1, 1) := by decide +kernel
theorem dX9_minute_81 : decode cX9_minute 81 = .ok (.invokestatic 110, 3) := by decide +kernel
theorem dX9_minute_84 : decode cX9_minute 84 = .ok (.iload_n 2, 1) := by decide +kernel
theorem dX9_minute_85 : decode cX9_minute 85 = .ok (.isub, 1) := by decide +kernel
theorem dX9_minute_86 : decode cX9_minute 86 = .ok (.ireturn, 1) := by decide +kernel
theorem dX9_set_0 : decode cX9_set 0 = .ok (.aload_n 0, 1) := by decide +kernel
theorem dX9_set_1 : decode cX9_set 1 = .ok (.getfield 10, 3) := by decide +kernel
theorem dX9_set_4 : decode cX9_set 4 = .ok (.getfield 89, 3) := by decide +kernel
theorem dX9_set_7 : decode cX9_set 7 = .ok (.iload_n 1, 1) := by decide +kernel
theorem dX9_set_8 : decode cX9_set 8 = .ok (.invokevirtual 98, 3) := by decide +kernel
theorem dX9_set_11 : decode cX9_set 11 = .ok (.ifCond .eq 12, 3) := by decide +kernel
theorem dX9_set_14 : decode cX9_set 14 = .ok (.iload_n 2, 1) := by decide +kernel
theorem dX9_set_15 : decode cX9_set 15 = .ok (.iconst 0, 1) := by decide +kernel
theorem dX9_set_16 : decode cX9_set 16 = .ok (.iconst 1, 1) := by decide +kernel
theorem dX9_set_17 : decode cX9_set 17 = .ok (.invokestatic 102, 3) := by decide +kernel
theorem dX9_set_20 : decode cX9_set 20 = .ok (.ifCond .ne 5, 3) := by decide +kernel
theorem dX9_set_23 : decode cX9_set 23 = .ok (.iconst (-1), 1) := by decide +kernel
theorem dX9_set_24 : decode cX9_set 24 = .ok (.ireturn, 1) := by decide +kernel
theorem dX9_set_25 : decode cX9_set 25 = .ok (.iload_n 3, 1) := by decide +kernel
theorem dX9_set_26 : decode cX9_set 26 = .ok (.iconst 1, 1) := by decide +kernel
theorem dX9_set_27 : decode cX9_set 27 = .ok (.iload_n 2, 1) := by decide +kernel
theorem dX9_set_28 : decode cX9_set 28 = .ok (.ifCond .ne 8, 3) := by decide +kernel
theorem dX9_set_31 : decode cX9_set 31 = .ok (.bipush 9, 2) := by decide +kernel
theorem dX9_set_33 : decode cX9_set 33 = .ok (.goto 5, 3) := by decide +kernel
theorem dX9_set_36 : decode cX9_set 36 = .ok (.bipush 99, 2) := by decide +kernel
theorem dX9_set_38 : decode cX9_set 38 = .ok (.invokestatic 102, 3) := by decide +kernel
theorem dX9_set_41 : decode cX9_set 41 = .ok (.ifCond .ne 5, 3) := by decide +kernel
theorem dX9_set_44 : decode cX9_set 44 = .ok (.iconst (-1), 1) := by decide +kernel
theorem dX9_set_45 : decode cX9_set 45 = .ok (.ireturn, 1) := by decide +kernel
theorem dX9_set_46 : decode cX9_set 46 = .ok (.iload_n 2, 1) := by decide +kernel
theorem dX9_set_47 : decode cX9_set 47 = .ok (.ifCond .ne 16, 3) := by decide +kernel
theorem dX9_set_50 : decode cX9_set 50 = .ok (.aload_n 0, 1) := by decide +kernel
theorem dX9_set_51 : decode cX9_set 51 = .ok (.getfield 10, 3) := by decide +kernel
theorem dX9_set_54 : decode cX9_set 54 = .ok (.getfield 89, 3) := by decide +kernel
theorem dX9_set_57 : decode cX9_set 57 = .ok (.getfield 186, 3) := by decide +kernel
theorem dX9_set_60 : decode cX9_set 60 = .ok (.goto 13, 3) := by decide +kernel
theorem dX9_set_63 : decode cX9_set 63 = .ok (.aload_n 0, 1) := by decide +kernel
theorem dX9_set_64 : decode cX9_set 64 = .ok (.getfield 10, 3) := by decide +kernel
theorem dX9_set_67 : decode cX9_set 67 = .ok (.getfield 89, 3) := by decide +kernel
theorem dX9_set_70 : decode cX9_set 70 = .ok (.getfield 189, 3) := by decide +kernel
theorem dX9_set_73 : decode cX9_set 73 = .ok (.astore 4, 2) := by decide +kernel
theorem dX9_set_75 : decode cX9_set 75 = .ok (.aload 4, 2) := by decide +kernel
theorem dX9_set_77 : decode cX9_set 77 = .ok (.iload_n 1, 1) := by decide +kernel
theorem dX9_set_78 : decode cX9_set 78 = .ok (.invokestatic 110, 3) := by decide +kernel
theorem dX9_set_81 : decode cX9_set 81 = .ok (.istore 5, 2) := by decide +kernel
theorem dX9_set_83 : decode cX9_set 83 = .ok (.iload 5, 2) := by decide +kernel
theorem dX9_set_85 : decode cX9_set 85 = .ok (.iload_n 3, 1) := by decide +kernel
theorem dX9_set_86 : decode cX9_set 86 = .ok (.if_icmp .ne 6, 3) := by decide +kernel
theorem dX9_set_89 : decode cX9_set 89 = .ok (.bipush (-2), 2) := by decide +kernel
theorem dX9_set_91 : decode cX9_set 91 = .ok (.ireturn, 1) := by decide +kernel
theorem dX9_set_92 : decode cX9_set 92 = .ok (.iload_n 2, 1) := by decide +kernel
theorem dX9_set_93 : decode cX9_set 93 = .ok (.iconst 1, 1) := by decide +kernel
theorem dX9_set_94 : decode cX9_set 94 = .ok (.if_icmp .ne 20, 3) := by decide +kernel
theorem dX9_set_97 : decode cX9_set 97 = .ok (.aload_n 0, 1) := by decide +kernel
theorem dX9_set_98 : decode cX9_set 98 = .ok (.getfield 10, 3) := by decide +kernel
theorem dX9_set_101 : decode cX9_set 101 = .ok (.getfield 89, 3) := by decide +kernel
theorem dX9_set_104 : decode cX9_set 104 = .ok (.iload_n 3, 1) := by decide +kernel
theorem dX9_set_105 : decode cX9_set 105 = .ok (.invokevirtual 192, 3) := by decide +kernel
theorem dX9_set_108 : decode cX9_set 108 = .ok (.ifCond .eq 6, 3) := by decide +kernel
theorem dX9_set_111 : decode cX9_set 111 = .ok (.bipush (-4), 2) := by decide +kernel
theorem dX9_set_113 : decode cX9_set 113 = .ok (.ireturn, 1) := by decide +kernel
theorem dX9_set_114 : decode cX9_set 114 = .ok (.aload_n 0, 1) := by decide +kernel
theorem dX9_set_115 : decode cX9_set 115 = .ok (.getfield 19, 3) := by decide +kernel
theorem dX9_set_118 : decode cX9_set 118 = .ok (.aload_n 0, 1) := by decide +kernel
theorem dX9_set_119 : decode cX9_set 119 = .ok (.getfield 10, 3) := by decide +kernel
theorem dX9_set_122 : decode cX9_set 122 = .ok (.invokevirtual 114, 3) := by decide +kernel
theorem dX9_set_125 : decode cX9_set 125 = .ok (.aload 4, 2) := by decide +kernel
theorem dX9_set_127 : decode cX9_set 127 = .ok (.iload_n 1, 1) := by decide +kernel
theorem dX9_set_128 : decode cX9_set 128 = .ok (.iload_n 3, 1) := by decide +kernel
theorem dX9_set_129 : decode cX9_set 129 = .ok (.invokestatic 195, 3) := by decide +kernel
theorem dX9_set_132 : decode cX9_set 132 = .ok (.aload_n 0, 1) := by decide +kernel
theorem dX9_set_133 : decode cX9_set 133 = .ok (.getfield 10, 3) := by decide +kernel
theorem dX9_set_136 : decode cX9_set 136 = .ok (.getfield 128, 3) := by decide +kernel
theorem dX9_set_139 : decode cX9_set 139 = .ok (.bipush 10, 2) := by decide +kernel
theorem dX9_set_141 : decode cX9_set 141 = .ok (.bipush 10, 2) := by decide +kernel
theorem dX9_set_143 : decode cX9_set 143 = .ok (.iload_n 1, 1) := by decide +kernel
theorem dX9_set_144 : decode cX9_set 144 = .ok (.imul, 1) := by decide +kernel
theorem dX9_set_145 : decode cX9_set 145 = .ok (.iload_n 2, 1) := by decide +kernel
theorem dX9_set_146 : decode cX9_set 146 = .ok (.iadd, 1) := by decide +kernel
theorem dX9_set_147 : decode cX9_set 147 = .ok (.iload 5, 2) := by decide +kernel
theorem dX9_set_149 : decode cX9_set 149 = .ok (.invokevirtual 132, 3) := by decide +kernel
theorem dX9_set_152 : decode cX9_set 152 = .ok (.iload 5, 2) := by decide +kernel
theorem dX9_set_154 : decode cX9_set 154 = .ok (.ireturn, 1) := by decide +kernel
theorem dX9_rule_0 : decode cX9_rule 0 = .ok (.iload_n 1, 1) := by decide +kernel
theorem dX9_rule_1 : decode cX9_rule 1 = .ok (.iload_n 2, 1) := by decide +kernel
theorem dX9_rule_2 : decode cX9_rule 2 = .ok (.invokestatic 199, 3) := by decide +kernel
theorem dX9_rule_5 : decode cX9_rule 5 = .ok (.ifCond .ne 5, 3) := by decide +kernel
theorem dX9_rule_8 : decode cX9_rule 8 = .ok (.iconst (-1), 1) := by decide +kernel
theorem dX9_rule_9 : decode cX9_rule 9 = .ok (.ireturn, 1) := by decide +kernel
theorem dX9_rule_10 : decode cX9_rule 10 = .ok (.aload_n 0, 1) := by decide +kernel
theorem dX9_rule_11 : decode cX9_rule 11 = .ok (.getfield 10, 3) := by decide +kernel
theorem dX9_rule_14 : decode cX9_rule 14 = .ok (.getfield 203, 3) := by decide +kernel
theorem dX9_rule_17 : decode cX9_rule 17 = .ok (.iload_n 1, 1) := by decide +kernel
theorem dX9_rule_18 : decode cX9_rule 18 = .ok (.invokestatic 110, 3) := by decide +kernel
theorem dX9_rule_21 : decode cX9_rule 21 = .ok (.istore_n 3, 1) := by decide +kernel
theorem dX9_rule_22 : decode cX9_rule 22 = .ok (.iload_n 3, 1) := by decide +kernel
theorem dX9_rule_23 : decode cX9_rule 23 = .ok (.iload_n 2, 1) := by decide +kernel
theorem dX9_rule_24 : decode cX9_rule 24 = .ok (.if_icmp .ne 6, 3) := by decide +kernel
theorem dX9_rule_27 : decode cX9_rule 27 = .ok (.bipush (-2), 2) := by decide +kernel
theorem dX9_rule_29 : decode cX9_rule 29 = .ok (.ireturn, 1) := by decide +kernel
theorem dX9_rule_30 : decode cX9_rule 30 = .ok (.aload_n 0, 1) := by decide +kernel
theorem dX9_rule_31 : decode cX9_rule 31 = .ok (.getfield 19, 3) := by decide +kernel
theorem dX9_rule_34 : decode cX9_rule 34 = .ok (.aload_n 0, 1) := by decide +kernel
theorem dX9_rule_35 : decode cX9_rule 35 = .ok (.getfield 10, 3) := by decide +kernel
theorem dX9_rule_38 : decode cX9_rule 38 = .ok (.invokevirtual 114, 3) := by decide +kernel
theorem dX9_rule_41 : decode cX9_rule 41 = .ok (.aload_n 0, 1) := by decide +kernel
theorem dX9_rule_42 : decode cX9_rule 42 = .ok (.getfield 10, 3) := by decide +kernel
theorem dX9_rule_45 : decode cX9_rule 45 = .ok (.getfield 203, 3) := by decide +kernel
theorem dX9_rule_48 : decode cX9_rule 48 = .ok (.iload_n 1, 1) := by decide +kernel
theorem dX9_rule_49 : decode cX9_rule 49 = .ok (.iload_n 2, 1) := by decide +kernel
theorem dX9_rule_50 : decode cX9_rule 50 = .ok (.invokestatic 195, 3) := by decide +kernel
theorem dX9_rule_53 : decode cX9_rule 53 = .ok (.aload_n 0, 1) := by decide +kernel
theorem dX9_rule_54 : decode cX9_rule 54 = .ok (.getfield 10, 3) := by decide +kernel
theorem dX9_rule_57 : decode cX9_rule 57 = .ok (.getfield 128, 3) := by decide +kernel
theorem dX9_rule_60 : decode cX9_rule 60 = .ok (.bipush 8, 2) := by decide +kernel
theorem dX9_rule_62 : decode cX9_rule 62 = .ok (.iload_n 1, 1) := by decide +kernel
theorem dX9_rule_63 : decode cX9_rule 63 = .ok (.iload_n 3, 1) := by decide +kernel
theorem dX9_rule_64 : decode cX9_rule 64 = .ok (.invokevirtual 132, 3) := by decide +kernel
theorem dX9_rule_67 : decode cX9_rule 67 = .ok (.iload_n 3, 1) := by decide +kernel
theorem dX9_rule_68 : decode cX9_rule 68 = .ok (.ireturn, 1) := by decide +kernel
theorem dX9_keep_0 : decode cX9_keep 0 = .ok (.iload_n 1, 1) := by decide +kernel
theorem dX9_keep_1 : decode cX9_keep 1 = .ok (.iconst 0, 1) := by decide +kernel
theorem dX9_keep_2 : decode cX9_keep 2 = .ok (.iconst 1, 1) := by decide +kernel
theorem dX9_keep_3 : decode cX9_keep 3 = .ok (.invokestatic 102, 3) := by decide +kernel
theorem dX9_keep_6 : decode cX9_keep 6 = .ok (.ifCond .ne 5, 3) := by decide +kernel
theorem dX9_keep_9 : decode cX9_keep 9 = .ok (.iconst (-1), 1) := by decide +kernel
theorem dX9_keep_10 : decode cX9_keep 10 = .ok (.ireturn, 1) := by decide +kernel
theorem dX9_keep_11 : decode cX9_keep 11 = .ok (.aload_n 0, 1) := by decide +kernel
theorem dX9_keep_12 : decode cX9_keep 12 = .ok (.getfield 26, 3) := by decide +kernel
theorem dX9_keep_15 : decode cX9_keep 15 = .ok (.iload_n 1, 1) := by decide +kernel
theorem dX9_keep_16 : decode cX9_keep 16 = .ok (.aload_n 0, 1) := by decide +kernel
theorem dX9_keep_17 : decode cX9_keep 17 = .ok (.getfield 10, 3) := by decide +kernel
theorem dX9_keep_20 : decode cX9_keep 20 = .ok (.invokevirtual 206, 3) := by decide +kernel
theorem dX9_keep_23 : decode cX9_keep 23 = .ok (.aload_n 0, 1) := by decide +kernel
theorem dX9_keep_24 : decode cX9_keep 24 = .ok (.getfield 10, 3) := by decide +kernel
theorem dX9_keep_27 : decode cX9_keep 27 = .ok (.getfield 180, 3) := by decide +kernel
theorem dX9_keep_30 : decode cX9_keep 30 = .ok (.ireturn, 1) := by decide +kernel
theorem dX9_restore_0 : decode cX9_restore 0 = .ok (.iload_n 1, 1) := by decide +kernel
theorem dX9_restore_1 : decode cX9_restore 1 = .ok (.iconst 0, 1) := by decide +kernel
theorem dX9_restore_2 : decode cX9_restore 2 = .ok (.iconst 1, 1) := by decide +kernel
theorem dX9_restore_3 : decode cX9_restore 3 = .ok (.invokestatic 102, 3) := by decide +kernel
theorem dX9_restore_6 : decode cX9_restore 6 = .ok (.ifCond .ne 5, 3) := by decide +kernel
theorem dX9_restore_9 : decode cX9_restore 9 = .ok (.iconst (-1), 1) := by decide +kernel
theorem dX9_restore_10 : decode cX9_restore 10 = .ok (.ireturn, 1) := by decide +kernel
theorem dX9_restore_11 : decode cX9_restore 11 = .ok (.aload_n 0, 1) := by decide +kernel
theorem dX9_restore_12 : decode cX9_restore 12 = .ok (.getfield 26, 3) := by decide +kernel
theorem dX9_restore_15 : decode cX9_restore 15 = .ok (.iload_n 1, 1) := by decide +kernel
theorem dX9_restore_16 : decode cX9_restore 16 = .ok (.invokevirtual 210, 3) := by decide +kernel
theorem dX9_restore_19 : decode cX9_restore 19 = .ok (.astore_n 2, 1) := by decide +kernel
theorem dX9_restore_20 : decode cX9_restore 20 = .ok (.aload_n 2, 1) := by decide +kernel
theorem dX9_restore_21 : decode cX9_restore 21 = .ok (.ifnonnull 6, 3) := by decide +kernel
theorem dX9_restore_24 : decode cX9_restore 24 = .ok (.bipush (-2), 2) := by decide +kernel
theorem dX9_restore_26 : decode cX9_restore 26 = .ok (.ireturn, 1) := by decide +kernel
theorem dX9_restore_27 : decode cX9_restore 27 = .ok (.aload_n 0, 1) := by decide +kernel
theorem dX9_restore_28 : decode cX9_restore 28 = .ok (.getfield 19, 3) := by decide +kernel
theorem dX9_restore_31 : decode cX9_restore 31 = .ok (.aload_n 0, 1) := by decide +kernel
theorem dX9_restore_32 : decode cX9_restore 32 = .ok (.getfield 10, 3) := by decide +kernel
theorem dX9_restore_35 : decode cX9_restore 35 = .ok (.invokevirtual 114, 3) := by decide +kernel
theorem dX9_restore_38 : decode cX9_restore 38 = .ok (.aload_n 0, 1) := by decide +kernel
theorem dX9_restore_39 : decode cX9_restore 39 = .ok (.getfield 10, 3) := by decide +kernel
theorem dX9_restore_42 : decode cX9_restore 42 = .ok (.aload_n 2, 1) := by decide +kernel
theorem dX9_restore_43 : decode cX9_restore 43 = .ok (.invokevirtual 81, 3) := by decide +kernel
theorem dX9_restore_46 : decode cX9_restore 46 = .ok (.aload_n 0, 1) := by decide +kernel
theorem dX9_restore_47 : decode cX9_restore 47 = .ok (.getfield 10, 3) := by decide +kernel
theorem dX9_restore_50 : decode cX9_restore 50 = .ok (.getfield 180, 3) := by decide +kernel
theorem dX9_restore_53 : decode cX9_restore 53 = .ok (.ireturn, 1) := by decide +kernel
theorem dX9_undo_0 : decode cX9_undo 0 = .ok (.aload_n 0, 1) := by decide +kernel
theorem dX9_undo_1 : decode cX9_undo 1 = .ok (.getfield 19, 3) := by decide +kernel
theorem dX9_undo_4 : decode cX9_undo 4 = .ok (.getfield 214, 3) := by decide +kernel
theorem dX9_undo_7 : decode cX9_undo 7 = .ok (.ifCond .ne 5, 3) := by decide +kernel
theorem dX9_undo_10 : decode cX9_undo 10 = .ok (.iconst (-1), 1) := by decide +kernel
theorem dX9_undo_11 : decode cX9_undo 11 = .ok (.ireturn, 1) := by decide +kernel
theorem dX9_undo_12 : decode cX9_undo 12 = .ok (.aload_n 0, 1) := by decide +kernel
theorem dX9_undo_13 : decode cX9_undo 13 = .ok (.getfield 19, 3) := by decide +kernel
theorem dX9_undo_16 : decode cX9_undo 16 = .ok (.aload_n 0, 1) := by decide +kernel
theorem dX9_undo_17 : decode cX9_undo 17 = .ok (.getfield 10, 3) := by decide +kernel
theorem dX9_undo_20 : decode cX9_undo 20 = .ok (.invokevirtual 215, 3) := by decide +kernel
theorem dX9_undo_23 : decode cX9_undo 23 = .ok (.aload_n 0, 1) := by decide +kernel
theorem dX9_undo_24 : decode cX9_undo 24 = .ok (.getfield 19, 3) := by decide +kernel
theorem dX9_undo_27 : decode cX9_undo 27 = .ok (.getfield 214, 3) := by decide +kernel
theorem dX9_undo_30 : decode cX9_undo 30 = .ok (.ireturn, 1) := by decide +kernel
theorem dX9_value_0 : decode cX9_value 0 = .ok (.iload_n 1, 1) := by decide +kernel
theorem dX9_value_1 : decode cX9_value 1 = .ok (.iconst 0, 1) := by decide +kernel
theorem dX9_value_2 : decode cX9_value 2 = .ok (.iconst 2, 1) := by decide +kernel
theorem dX9_value_3 : decode cX9_value 3 = .ok (.invokestatic 102, 3) := by decide +kernel
theorem dX9_value_6 : decode cX9_value 6 = .ok (.ifCond .eq 15, 3) := by decide +kernel
theorem dX9_value_9 : decode cX9_value 9 = .ok (.aload_n 0, 1) := by decide +kernel
theorem dX9_value_10 : decode cX9_value 10 = .ok (.getfield 10, 3) := by decide +kernel
theorem dX9_value_13 : decode cX9_value 13 = .ok (.getfield 203, 3) := by decide +kernel
theorem dX9_value_16 : decode cX9_value 16 = .ok (.iload_n 1, 1) := by decide +kernel
theorem dX9_value_17 : decode cX9_value 17 = .ok (.invokestatic 110, 3) := by decide +kernel
theorem dX9_value_20 : decode cX9_value 20 = .ok (.ireturn, 1) := by decide +kernel
theorem dX9_value_21 : decode cX9_value 21 = .ok (.iload_n 1, 1) := by decide +kernel
theorem dX9_value_22 : decode cX9_value 22 = .ok (.bipush 10, 2) := by decide +kernel
theorem dX9_value_24 : decode cX9_value 24 = .ok (.bipush 18, 2) := by decide +kernel
theorem dX9_value_26 : decode cX9_value 26 = .ok (.invokestatic 102, 3) := by decide +kernel
theorem dX9_value_29 : decode cX9_value 29 = .ok (.ifCond .eq 18, 3) := by decide +kernel
theorem dX9_value_32 : decode cX9_value 32 = .ok (.aload_n 0, 1) := by decide +kernel
theorem dX9_value_33 : decode cX9_value 33 = .ok (.getfield 10, 3) := by decide +kernel
theorem dX9_value_36 : decode cX9_value 36 = .ok (.getfield 121, 3) := by decide +kernel
theorem dX9_value_39 : decode cX9_value 39 = .ok (.iload_n 1, 1) := by decide +kernel
theorem dX9_value_40 : decode cX9_value 40 = .ok (.bipush 10, 2) := by decide +kernel
theorem dX9_value_42 : decode cX9_value 42 = .ok (.isub, 1) := by decide +kernel
theorem dX9_value_43 : decode cX9_value 43 = .ok (.invokestatic 110, 3) := by decide +kernel
theorem dX9_value_46 : decode cX9_value 46 = .ok (.ireturn, 1) := by decide +kernel
theorem dX9_value_47 : decode cX9_value 47 = .ok (.iload_n 1, 1) := by decide +kernel
theorem dX9_value_48 : decode cX9_value 48 = .ok (.tableswitch 178 3 20 #[88, 96, 107, 118, 129, 137, 148, 178, 178, 178, 178, 178, 178, 178, 178, 178, 159, 170], 88) := by decide +kernel
theorem dX9_value_136 : decode cX9_value 136 = .ok (.aload_n 0, 1) := by decide +kernel
theorem dX9_value_137 : decode cX9_value 137 = .ok (.getfield 10, 3) := by decide +kernel
theorem dX9_value_140 : decode cX9_value 140 = .ok (.getfield 180, 3) := by decide +kernel
theorem dX9_value_143 : decode cX9_value 143 = .ok (.ireturn, 1) := by decide +kernel
theorem dX9_value_144 : decode cX9_value 144 = .ok (.aload_n 0, 1) := by decide +kernel
theorem dX9_value_145 : decode cX9_value 145 = .ok (.getfield 10, 3) := by decide +kernel
theorem dX9_value_148 : decode cX9_value 148 = .ok (.getfield 89, 3) := by decide +kernel
theorem dX9_value_151 : decode cX9_value 151 = .ok (.getfield 93, 3) := by decide +kernel
theorem dX9_value_154 : decode cX9_value 154 = .ok (.ireturn, 1) := by decide +kernel
theorem dX9_value_155 : decode cX9_value 155 = .ok (.aload_n 0, 1) := by decide +kernel
theorem dX9_value_156 : decode cX9_value 156 = .ok (.getfield 10, 3) := by decide +kernel
theorem dX9_value_159 : decode cX9_value 159 = .ok (.getfield 89, 3) := by decide +kernel
theorem dX9_value_162 : decode cX9_value 162 = .ok (.invokevirtual 218, 3) := by decide +kernel
theorem dX9_value_165 : decode cX9_value 165 = .ok (.ireturn, 1) := by decide +kernel
theorem dX9_value_166 : decode cX9_value 166 = .ok (.aload_n 0, 1) := by decide +kernel
theorem dX9_value_167 : decode cX9_value 167 = .ok (.getfield 10, 3) := by decide +kernel
theorem dX9_value_170 : decode cX9_value 170 = .ok (.getfield 137, 3) := by decide +kernel
theorem dX9_value_173 : decode cX9_value 173 = .ok (.getfield 171, 3) := by decide +kernel
theorem dX9_value_176 : decode cX9_value 176 = .ok (.ireturn, 1) := by decide +kernel
theorem dX9_value_177 : decode cX9_value 177 = .ok (.aload_n 0, 1) := by decide +kernel
theorem dX9_value_178 : decode cX9_value 178 = .ok (.getfield 10, 3) := by decide +kernel
theorem dX9_value_181 : decode cX9_value 181 = .ok (.getfield 221, 3) := by decide +kernel
theorem dX9_value_184 : decode cX9_value 184 = .ok (.ireturn, 1) := by decide +kernel
theorem dX9_value_185 : decode cX9_value 185 = .ok (.aload_n 0, 1) := by decide +kernel
theorem dX9_value_186 : decode cX9_value 186 = .ok (.getfield 10, 3) := by decide +kernel
theorem dX9_value_189 : decode cX9_value 189 = .ok (.getfield 89, 3) := by decide +kernel
theorem dX9_value_192 : decode cX9_value 192 = .ok (.invokevirtual 224, 3) := by decide +kernel
theorem dX9_value_195 : decode cX9_value 195 = .ok (.ireturn, 1) := by decide +kernel
theorem dX9_value_196 : decode cX9_value 196 = .ok (.aload_n 0, 1) := by decide +kernel
theorem dX9_value_197 : decode cX9_value 197 = .ok (.getfield 10, 3) := by decide +kernel
theorem dX9_value_200 : decode cX9_value 200 = .ok (.getfield 89, 3) := by decide +kernel
theorem dX9_value_203 : decode cX9_value 203 = .ok (.invokevirtual 227, 3) := by decide +kernel
theorem dX9_value_206 : decode cX9_value 206 = .ok (.ireturn, 1) := by decide +kernel
theorem dX9_value_207 : decode cX9_value 207 = .ok (.aload_n 0, 1) := by decide +kernel
theorem dX9_value_208 : decode cX9_value 208 = .ok (.getfield 10, 3) := by decide +kernel
theorem dX9_value_211 : decode cX9_value 211 = .ok (.getfield 128, 3) := by decide +kernel
theorem dX9_value_214 : decode cX9_value 214 = .ok (.getfield 230, 3) := by decide +kernel
theorem dX9_value_217 : decode cX9_value 217 = .ok (.ireturn, 1) := by decide +kernel
theorem dX9_value_218 : decode cX9_value 218 = .ok (.aload_n 0, 1) := by decide +kernel
theorem dX9_value_219 : decode cX9_value 219 = .ok (.getfield 19, 3) := by decide +kernel
theorem dX9_value_222 : decode cX9_value 222 = .ok (.getfield 214, 3) := by decide +kernel
theorem dX9_value_225 : decode cX9_value 225 = .ok (.ireturn, 1) := by decide +kernel
theorem dX9_value_226 : decode cX9_value 226 = .ok (.iconst (-1), 1) := by decide +kernel
theorem dX9_value_227 : decode cX9_value 227 = .ok (.ireturn, 1) := by decide +kernel
theorem dX9_office_0 : decode cX9_office 0 = .ok (.aload_n 0, 1) := by decide +kernel
theorem dX9_office_1 : decode cX9_office 1 = .ok (.getfield 10, 3) := by decide +kernel
theorem dX9_office_4 : decode cX9_office 4 = .ok (.getfield 89, 3) := by decide +kernel
theorem dX9_office_7 : decode cX9_office 7 = .ok (.astore_n 3, 1) := by decide +kernel
theorem dX9_office_8 : decode cX9_office 8 = .ok (.aload_n 3, 1) := by decide +kernel
theorem dX9_office_9 : decode cX9_office 9 = .ok (.iload_n 1, 1) := by decide +kernel
theorem dX9_office_10 : decode cX9_office 10 = .ok (.invokevirtual 98, 3) := by decide +kernel
theorem dX9_office_13 : decode cX9_office 13 = .ok (.ifCond .ne 5, 3) := by decide +kernel
theorem dX9_office_16 : decode cX9_office 16 = .ok (.iconst (-1), 1) := by decide +kernel
theorem dX9_office_17 : decode cX9_office 17 = .ok (.ireturn, 1) := by decide +kernel
theorem dX9_office_18 : decode cX9_office 18 = .ok (.iload_n 2, 1) := by decide +kernel
theorem dX9_office_19 : decode cX9_office 19 = .ok (.tableswitch 127 0 8 #[49, 58, 67, 76, 85, 94, 100, 112, 121], 49) := by decide +kernel
theorem dX9_office_68 : decode cX9_office 68 = .ok (.aload_n 3, 1) := by decide +kernel
theorem dX9_office_69 : decode cX9_office 69 = .ok (.getfield 186, 3) := by decide +kernel
theorem dX9_office_72 : decode cX9_office 72 = .ok (.iload_n 1, 1) := by decide +kernel
theorem dX9_office_73 : decode cX9_office 73 = .ok (.invokestatic 110, 3) := by decide +kernel
theorem dX9_office_76 : decode cX9_office 76 = .ok (.ireturn, 1) := by decide +kernel
theorem dX9_office_77 : decode cX9_office 77 = .ok (.aload_n 3, 1) := by decide +kernel
theorem dX9_office_78 : decode cX9_office 78 = .ok (.getfield 189, 3) := by decide +kernel
theorem dX9_office_81 : decode cX9_office 81 = .ok (.iload_n 1, 1) := by decide +kernel
theorem dX9_office_82 : decode cX9_office 82 = .ok (.invokestatic 110, 3) := by decide +kernel
theorem dX9_office_85 : decode cX9_office 85 = .ok (.ireturn, 1) := by decide +kernel
theorem dX9_office_86 : decode cX9_office 86 = .ok (.aload_n 3, 1) := by decide +kernel
theorem dX9_office_87 : decode cX9_office 87 = .ok (.getfield 155, 3) := by decide +kernel
theorem dX9_office_90 : decode cX9_office 90 = .ok (.iload_n 1, 1) := by decide +kernel
theorem dX9_office_91 : decode cX9_office 91 = .ok (.invokestatic 110, 3) := by decide +kernel
theorem dX9_office_94 : decode cX9_office 94 = .ok (.ireturn, 1) := by decide +kernel
theorem dX9_office_95 : decode cX9_office 95 = .ok (.aload_n 3, 1) := by decide +kernel
theorem dX9_office_96 : decode cX9_office 96 = .ok (.getfield 231, 3) := by decide +kernel
theorem dX9_office_99 : decode cX9_office 99 = .ok (.iload_n 1, 1) := by decide +kernel
theorem dX9_office_100 : decode cX9_office 100 = .ok (.invokestatic 110, 3) := by decide +kernel
theorem dX9_office_103 : decode cX9_office 103 = .ok (.ireturn, 1) := by decide +kernel
theorem dX9_office_104 : decode cX9_office 104 = .ok (.aload_n 3, 1) := by decide +kernel
theorem dX9_office_105 : decode cX9_office 105 = .ok (.getfield 106, 3) := by decide +kernel
theorem dX9_office_108 : decode cX9_office 108 = .ok (.iload_n 1, 1) := by decide +kernel
theorem dX9_office_109 : decode cX9_office 109 = .ok (.invokestatic 110, 3) := by decide +kernel
theorem dX9_office_112 : decode cX9_office 112 = .ok (.ireturn, 1) := by decide +kernel
theorem dX9_office_113 : decode cX9_office 113 = .ok (.aload_n 3, 1) := by decide +kernel
theorem dX9_office_114 : decode cX9_office 114 = .ok (.iload_n 1, 1) := by decide +kernel
theorem dX9_office_115 : decode cX9_office 115 = .ok (.invokevirtual 234, 3) := by decide +kernel
theorem dX9_office_118 : decode cX9_office 118 = .ok (.ireturn, 1) := by decide +kernel
theorem dX9_office_119 : decode cX9_office 119 = .ok (.aload_n 0, 1) := by decide +kernel
theorem dX9_office_120 : decode cX9_office 120 = .ok (.getfield 10, 3) := by decide +kernel
theorem dX9_office_123 : decode cX9_office 123 = .ok (.getfield 137, 3) := by decide +kernel
theorem dX9_office_126 : decode cX9_office 126 = .ok (.iload_n 1, 1) := by decide +kernel
theorem dX9_office_127 : decode cX9_office 127 = .ok (.invokevirtual 237, 3) := by decide +kernel
theorem dX9_office_130 : decode cX9_office 130 = .ok (.ireturn, 1) := by decide +kernel
theorem dX9_office_131 : decode cX9_office 131 = .ok (.aload_n 3, 1) := by decide +kernel
theorem dX9_office_132 : decode cX9_office 132 = .ok (.getfield 240, 3) := by decide +kernel
theorem dX9_office_135 : decode cX9_office 135 = .ok (.iload_n 1, 1) := by decide +kernel
theorem dX9_office_136 : decode cX9_office 136 = .ok (.invokestatic 110, 3) := by decide +kernel
theorem dX9_office_139 : decode cX9_office 139 = .ok (.ireturn, 1) := by decide +kernel
theorem dX9_office_140 : decode cX9_office 140 = .ok (.aload_n 3, 1) := by decide +kernel
theorem dX9_office_141 : decode cX9_office 141 = .ok (.iload_n 1, 1) := by decide +kernel
theorem dX9_office_142 : decode cX9_office 142 = .ok (.invokevirtual 243, 3) := by decide +kernel
theorem dX9_office_145 : decode cX9_office 145 = .ok (.ireturn, 1) := by decide +kernel
theorem dX9_office_146 : decode cX9_office 146 = .ok (.iconst (-1), 1) := by decide +kernel
theorem dX9_office_147 : decode cX9_office 147 = .ok (.ireturn, 1) := by decide +kernel
theorem dX9_queue_0 : decode cX9_queue 0 = .ok (.aload_n 0, 1) := by decide +kernel
theorem dX9_queue_1 : decode cX9_queue 1 = .ok (.getfield 10, 3) := by decide +kernel
theorem dX9_queue_4 : decode cX9_queue 4 = .ok (.getfield 89, 3) := by decide +kernel
theorem dX9_queue_7 : decode cX9_queue 7 = .ok (.astore 4, 2) := by decide +kernel
theorem dX9_queue_9 : decode cX9_queue 9 = .ok (.aload 4, 2) := by decide +kernel
theorem dX9_queue_11 : decode cX9_queue 11 = .ok (.iload_n 1, 1) := by decide +kernel
theorem dX9_queue_12 : decode cX9_queue 12 = .ok (.invokevirtual 98, 3) := by decide +kernel
theorem dX9_queue_15 : decode cX9_queue 15 = .ok (.ifCond .eq 16, 3) := by decide +kernel
theorem dX9_queue_18 : decode cX9_queue 18 = .ok (.iload_n 2, 1) := by decide +kernel
theorem dX9_queue_19 : decode cX9_queue 19 = .ok (.ifCond .lt 12, 3) := by decide +kernel
theorem dX9_queue_22 : decode cX9_queue 22 = .ok (.iload_n 3, 1) := by decide +kernel
theorem dX9_queue_23 : decode cX9_queue 23 = .ok (.iconst 0, 1) := by decide +kernel
theorem dX9_queue_24 : decode cX9_queue 24 = .ok (.iconst 2, 1) := by decide +kernel
theorem dX9_queue_25 : decode cX9_queue 25 = .ok (.invokestatic 102, 3) := by decide +kernel
theorem dX9_queue_28 : decode cX9_queue 28 = .ok (.ifCond .ne 5, 3) := by decide +kernel
theorem dX9_queue_31 : decode cX9_queue 31 = .ok (.iconst (-1), 1) := by decide +kernel
theorem dX9_queue_32 : decode cX9_queue 32 = .ok (.ireturn, 1) := by decide +kernel
theorem dX9_queue_33 : decode cX9_queue 33 = .ok (.iload_n 2, 1) := by decide +kernel
theorem dX9_queue_34 : decode cX9_queue 34 = .ok (.aload 4, 2) := by decide +kernel
theorem dX9_queue_36 : decode cX9_queue 36 = .ok (.getfield 106, 3) := by decide +kernel
theorem dX9_queue_39 : decode cX9_queue 39 = .ok (.iload_n 1, 1) := by decide +kernel
theorem dX9_queue_40 : decode cX9_queue 40 = .ok (.invokestatic 110, 3) := by decide +kernel
theorem dX9_queue_43 : decode cX9_queue 43 = .ok (.if_icmp .lt 6, 3) := by decide +kernel
theorem dX9_queue_46 : decode cX9_queue 46 = .ok (.bipush (-2), 2) := by decide +kernel
theorem dX9_queue_48 : decode cX9_queue 48 = .ok (.ireturn, 1) := by decide +kernel
theorem dX9_queue_49 : decode cX9_queue 49 = .ok (.iload_n 3, 1) := by decide +kernel
theorem dX9_queue_50 : decode cX9_queue 50 = .ok (.ifCond .ne 11, 3) := by decide +kernel
theorem dX9_queue_53 : decode cX9_queue 53 = .ok (.aload 4, 2) := by decide +kernel
theorem dX9_queue_55 : decode cX9_queue 55 = .ok (.iload_n 1, 1) := by decide +kernel
theorem dX9_queue_56 : decode cX9_queue 56 = .ok (.iload_n 2, 1) := by decide +kernel
theorem dX9_queue_57 : decode cX9_queue 57 = .ok (.invokevirtual 246, 3) := by decide +kernel
theorem dX9_queue_60 : decode cX9_queue 60 = .ok (.ireturn, 1) := by decide +kernel
theorem dX9_queue_61 : decode cX9_queue 61 = .ok (.aload_n 0, 1) := by decide +kernel
theorem dX9_queue_62 : decode cX9_queue 62 = .ok (.getfield 10, 3) := by decide +kernel
theorem dX9_queue_65 : decode cX9_queue 65 = .ok (.getfield 137, 3) := by decide +kernel
theorem dX9_queue_68 : decode cX9_queue 68 = .ok (.iload_n 1, 1) := by decide +kernel
theorem dX9_queue_69 : decode cX9_queue 69 = .ok (.invokevirtual 141, 3) := by decide +kernel
theorem dX9_queue_72 : decode cX9_queue 72 = .ok (.istore 5, 2) := by decide +kernel
theorem dX9_queue_74 : decode cX9_queue 74 = .ok (.iload_n 3, 1) := by decide +kernel
theorem dX9_queue_75 : decode cX9_queue 75 = .ok (.iconst 2, 1) := by decide +kernel
theorem dX9_queue_76 : decode cX9_queue 76 = .ok (.if_icmp .ne 15, 3) := by decide +kernel
theorem dX9_queue_79 : decode cX9_queue 79 = .ok (.iload_n 2, 1) := by decide +kernel
theorem dX9_queue_80 : decode cX9_queue 80 = .ok (.ifCond .ne 11, 3) := by decide +kernel
theorem dX9_queue_83 : decode cX9_queue 83 = .ok (.iload 5, 2) := by decide +kernel
theorem dX9_queue_85 : decode cX9_queue 85 = .ok (.ifCond .le 6, 3) := by decide +kernel
theorem dX9_queue_88 : decode cX9_queue 88 = .ok (.iload 5, 2) := by decide +kernel
theorem dX9_queue_90 : decode cX9_queue 90 = .ok (.ireturn, 1) := by decide +kernel
theorem dX9_queue_91 : decode cX9_queue 91 = .ok (.aload 4, 2) := by decide +kernel
theorem dX9_queue_93 : decode cX9_queue 93 = .ok (.iload_n 1, 1) := by decide +kernel
theorem dX9_queue_94 : decode cX9_queue 94 = .ok (.iload_n 2, 1) := by decide +kernel
theorem dX9_queue_95 : decode cX9_queue 95 = .ok (.invokevirtual 147, 3) := by decide +kernel
theorem dX9_queue_98 : decode cX9_queue 98 = .ok (.ireturn, 1) := by decide +kernel
theorem dX9_token_0 : decode cX9_token 0 = .ok (.aload_n 0, 1) := by decide +kernel
theorem dX9_token_1 : decode cX9_token 1 = .ok (.getfield 10, 3) := by decide +kernel
theorem dX9_token_4 : decode cX9_token 4 = .ok (.getfield 137, 3) := by decide +kernel
theorem dX9_token_7 : decode cX9_token 7 = .ok (.astore_n 3, 1) := by decide +kernel
theorem dX9_token_8 : decode cX9_token 8 = .ok (.aload_n 3, 1) := by decide +kernel
theorem dX9_token_9 : decode cX9_token 9 = .ok (.iload_n 1, 1) := by decide +kernel
theorem dX9_token_10 : decode cX9_token 10 = .ok (.invokevirtual 161, 3) := by decide +kernel
theorem dX9_token_13 : decode cX9_token 13 = .ok (.ifCond .ne 5, 3) := by decide +kernel
theorem dX9_token_16 : decode cX9_token 16 = .ok (.iconst (-1), 1) := by decide +kernel
theorem dX9_token_17 : decode cX9_token 17 = .ok (.ireturn, 1) := by decide +kernel
theorem dX9_token_18 : decode cX9_token 18 = .ok (.iload_n 2, 1) := by decide +kernel
theorem dX9_token_19 : decode cX9_token 19 = .ok (.tableswitch 78 0 4 #[33, 42, 51, 60, 69], 33) := by decide +kernel
theorem dX9_token_52 : decode cX9_token 52 = .ok (.aload_n 3, 1) := by decide +kernel
theorem dX9_token_53 : decode cX9_token 53 = .ok (.getfield 162, 3) := by decide +kernel
theorem dX9_token_56 : decode cX9_token 56 = .ok (.iload_n 1, 1) := by decide +kernel
theorem dX9_token_57 : decode cX9_token 57 = .ok (.invokestatic 110, 3) := by decide +kernel
theorem dX9_token_60 : decode cX9_token 60 = .ok (.ireturn, 1) := by decide +kernel
theorem dX9_token_61 : decode cX9_token 61 = .ok (.aload_n 3, 1) := by decide +kernel
theorem dX9_token_62 : decode cX9_token 62 = .ok (.getfield 249, 3) := by decide +kernel
theorem dX9_token_65 : decode cX9_token 65 = .ok (.iload_n 1, 1) := by decide +kernel
theorem dX9_token_66 : decode cX9_token 66 = .ok (.invokestatic 110, 3) := by decide +kernel
theorem dX9_token_69 : decode cX9_token 69 = .ok (.ireturn, 1) := by decide +kernel
theorem dX9_token_70 : decode cX9_token 70 = .ok (.aload_n 3, 1) := by decide +kernel
theorem dX9_token_71 : decode cX9_token 71 = .ok (.getfield 252, 3) := by decide +kernel
theorem dX9_token_74 : decode cX9_token 74 = .ok (.iload_n 1, 1) := by decide +kernel
theorem dX9_token_75 : decode cX9_token 75 = .ok (.invokestatic 110, 3) := by decide +kernel
theorem dX9_token_78 : decode cX9_token 78 = .ok (.ireturn, 1) := by decide +kernel
theorem dX9_token_79 : decode cX9_token 79 = .ok (.aload_n 3, 1) := by decide +kernel
theorem dX9_token_80 : decode cX9_token 80 = .ok (.getfield 255, 3) := by decide +kernel
theorem dX9_token_83 : decode cX9_token 83 = .ok (.iload_n 1, 1) := by decide +kernel
theorem dX9_token_84 : decode cX9_token 84 = .ok (.invokestatic 110, 3) := by decide +kernel
theorem dX9_token_87 : decode cX9_token 87 = .ok (.ireturn, 1) := by decide +kernel
theorem dX9_token_88 : decode cX9_token 88 = .ok (.aload_n 3, 1) := by decide +kernel
theorem dX9_token_89 : decode cX9_token 89 = .ok (.getfield 258, 3) := by decide +kernel
theorem dX9_token_92 : decode cX9_token 92 = .ok (.iload_n 1, 1) := by decide +kernel
theorem dX9_token_93 : decode cX9_token 93 = .ok (.invokestatic 110, 3) := by decide +kernel
theorem dX9_token_96 : decode cX9_token 96 = .ok (.ireturn, 1) := by decide +kernel
theorem dX9_token_97 : decode cX9_token 97 = .ok (.iconst (-1), 1) := by decide +kernel
theorem dX9_token_98 : decode cX9_token 98 = .ok (.ireturn, 1) := by decide +kernel
theorem dX9_winner_0 : decode cX9_winner 0 = .ok (.aload_n 0, 1) := by decide +kernel
theorem dX9_winner_1 : decode cX9_winner 1 = .ok (.getfield 10, 3) := by decide +kernel
theorem dX9_winner_4 : decode cX9_winner 4 = .ok (.getfield 89, 3) := by decide +kernel
theorem dX9_winner_7 : decode cX9_winner 7 = .ok (.invokevirtual 261, 3) := by decide +kernel
theorem dX9_winner_10 : decode cX9_winner 10 = .ok (.ireturn, 1) := by decide +kernel
theorem dX9_round_0 : decode cX9_round 0 = .ok (.iconst 0, 1) := by decide +kernel
theorem dX9_round_1 : decode cX9_round 1 = .ok (.istore_n 1, 1) := by decide +kernel
theorem dX9_round_2 : decode cX9_round 2 = .ok (.iconst 0, 1) := by decide +kernel
theorem dX9_round_3 : decode cX9_round 3 = .ok (.istore_n 2, 1) := by decide +kernel
theorem dX9_round_4 : decode cX9_round 4 = .ok (.iload_n 2, 1) := by decide +kernel
theorem dX9_round_5 : decode cX9_round 5 = .ok (.aload_n 0, 1) := by decide +kernel
theorem dX9_round_6 : decode cX9_round 6 = .ok (.getfield 10, 3) := by decide +kernel
theorem dX9_round_9 : decode cX9_round 9 = .ok (.getfield 89, 3) := by decide +kernel
theorem dX9_round_12 : decode cX9_round 12 = .ok (.getfield 93, 3) := by decide +kernel
theorem dX9_round_15 : decode cX9_round 15 = .ok (.if_icmp .ge 26, 3) := by decide +kernel
theorem dX9_round_18 : decode cX9_round 18 = .ok (.iload_n 1, 1) := by decide +kernel
theorem dX9_round_19 : decode cX9_round 19 = .ok (.aload_n 0, 1) := by decide +kernel
theorem dX9_round_20 : decode cX9_round 20 = .ok (.getfield 10, 3) := by decide +kernel
theorem dX9_round_23 : decode cX9_round 23 = .ok (.getfield 89, 3) := by decide +kernel
theorem dX9_round_26 : decode cX9_round 26 = .ok (.getfield 186, 3) := by decide +kernel
theorem dX9_round_29 : decode cX9_round 29 = .ok (.iload_n 2, 1) := by decide +kernel
theorem dX9_round_30 : decode cX9_round 30 = .ok (.invokestatic 110, 3) := by decide +kernel
theorem dX9_round_33 : decode cX9_round 33 = .ok (.iadd, 1) := by decide +kernel
theorem dX9_round_34 : decode cX9_round 34 = .ok (.istore_n 1, 1) := by decide +kernel
theorem dX9_round_35 : decode cX9_round 35 = .ok (.iinc 2 1, 3) := by decide +kernel
theorem dX9_round_38 : decode cX9_round 38 = .ok (.goto (-34), 3) := by decide +kernel
theorem dX9_round_41 : decode cX9_round 41 = .ok (.iload_n 1, 1) := by decide +kernel
theorem dX9_round_42 : decode cX9_round 42 = .ok (.ireturn, 1) := by decide +kernel
theorem dX9_busiest_0 : decode cX9_busiest 0 = .ok (.iconst 0, 1) := by decide +kernel
theorem dX9_busiest_1 : decode cX9_busiest 1 = .ok (.istore_n 1, 1) := by decide +kernel
theorem dX9_busiest_2 : decode cX9_busiest 2 = .ok (.iconst 1, 1) := by decide +kernel
theorem dX9_busiest_3 : decode cX9_busiest 3 = .ok (.istore_n 2, 1) := by decide +kernel
theorem dX9_busiest_4 : decode cX9_busiest 4 = .ok (.iload_n 2, 1) := by decide +kernel
theorem dX9_busiest_5 : decode cX9_busiest 5 = .ok (.aload_n 0, 1) := by decide +kernel
theorem dX9_busiest_6 : decode cX9_busiest 6 = .ok (.getfield 10, 3) := by decide +kernel
theorem dX9_busiest_9 : decode cX9_busiest 9 = .ok (.getfield 89, 3) := by decide +kernel
theorem dX9_busiest_12 : decode cX9_busiest 12 = .ok (.getfield 93, 3) := by decide +kernel
theorem dX9_busiest_15 : decode cX9_busiest 15 = .ok (.if_icmp .ge 36, 3) := by decide +kernel
theorem dX9_busiest_18 : decode cX9_busiest 18 = .ok (.aload_n 0, 1) := by decide +kernel
theorem dX9_busiest_19 : decode cX9_busiest 19 = .ok (.getfield 10, 3) := by decide +kernel
theorem dX9_busiest_22 : decode cX9_busiest 22 = .ok (.getfield 89, 3) := by decide +kernel
theorem dX9_busiest_25 : decode cX9_busiest 25 = .ok (.iload_n 2, 1) := by decide +kernel
theorem dX9_busiest_26 : decode cX9_busiest 26 = .ok (.invokevirtual 234, 3) := by decide +kernel
theorem dX9_busiest_29 : decode cX9_busiest 29 = .ok (.aload_n 0, 1) := by decide +kernel
theorem dX9_busiest_30 : decode cX9_busiest 30 = .ok (.getfield 10, 3) := by decide +kernel
theorem dX9_busiest_33 : decode cX9_busiest 33 = .ok (.getfield 89, 3) := by decide +kernel
theorem dX9_busiest_36 : decode cX9_busiest 36 = .ok (.iload_n 1, 1) := by decide +kernel
theorem dX9_busiest_37 : decode cX9_busiest 37 = .ok (.invokevirtual 234, 3) := by decide +kernel
theorem dX9_busiest_40 : decode cX9_busiest 40 = .ok (.if_icmp .le 5, 3) := by decide +kernel
theorem dX9_busiest_43 : decode cX9_busiest 43 = .ok (.iload_n 2, 1) := by decide +kernel
theorem dX9_busiest_44 : decode cX9_busiest 44 = .ok (.istore_n 1, 1) := by decide +kernel
theorem dX9_busiest_45 : decode cX9_busiest 45 = .ok (.iinc 2 1, 3) := by decide +kernel
theorem dX9_busiest_48 : decode cX9_busiest 48 = .ok (.goto (-44), 3) := by decide +kernel
theorem dX9_busiest_51 : decode cX9_busiest 51 = .ok (.iload_n 1, 1) := by decide +kernel
theorem dX9_busiest_52 : decode cX9_busiest 52 = .ok (.ireturn, 1) := by decide +kernel
theorem dX9_why_0 : decode cX9_why 0 = .ok (.aload_n 0, 1) := by decide +kernel
theorem dX9_why_1 : decode cX9_why 1 = .ok (.getfield 10, 3) := by decide +kernel
theorem dX9_why_4 : decode cX9_why 4 = .ok (.getfield 89, 3) := by decide +kernel
theorem dX9_why_7 : decode cX9_why 7 = .ok (.astore_n 2, 1) := by decide +kernel
theorem dX9_why_8 : decode cX9_why 8 = .ok (.aload_n 2, 1) := by decide +kernel
theorem dX9_why_9 : decode cX9_why 9 = .ok (.iload_n 1, 1) := by decide +kernel
theorem dX9_why_10 : decode cX9_why 10 = .ok (.invokevirtual 98, 3) := by decide +kernel
theorem dX9_why_13 : decode cX9_why 13 = .ok (.ifCond .ne 5, 3) := by decide +kernel
theorem dX9_why_16 : decode cX9_why 16 = .ok (.iconst (-1), 1) := by decide +kernel
theorem dX9_why_17 : decode cX9_why 17 = .ok (.ireturn, 1) := by decide +kernel
theorem dX9_why_18 : decode cX9_why 18 = .ok (.aload_n 0, 1) := by decide +kernel
theorem dX9_why_19 : decode cX9_why 19 = .ok (.getfield 10, 3) := by decide +kernel
theorem dX9_why_22 : decode cX9_why 22 = .ok (.getfield 137, 3) := by decide +kernel
theorem dX9_why_25 : decode cX9_why 25 = .ok (.iload_n 1, 1) := by decide +kernel
theorem dX9_why_26 : decode cX9_why 26 = .ok (.invokevirtual 237, 3) := by decide +kernel
theorem dX9_why_29 : decode cX9_why 29 = .ok (.istore_n 3, 1) := by decide +kernel
theorem dX9_why_30 : decode cX9_why 30 = .ok (.aload_n 0, 1) := by decide +kernel
theorem dX9_why_31 : decode cX9_why 31 = .ok (.getfield 10, 3) := by decide +kernel
theorem dX9_why_34 : decode cX9_why 34 = .ok (.getfield 137, 3) := by decide +kernel
theorem dX9_why_37 : decode cX9_why 37 = .ok (.getfield 258, 3) := by decide +kernel
theorem dX9_why_40 : decode cX9_why 40 = .ok (.iload_n 3, 1) := by decide +kernel
theorem dX9_why_41 : decode cX9_why 41 = .ok (.invokestatic 110, 3) := by decide +kernel
theorem dX9_why_44 : decode cX9_why 44 = .ok (.ifCond .le 5, 3) := by decide +kernel
theorem dX9_why_47 : decode cX9_why 47 = .ok (.iconst 0, 1) := by decide +kernel
theorem dX9_why_48 : decode cX9_why 48 = .ok (.ireturn, 1) := by decide +kernel
theorem dX9_why_49 : decode cX9_why 49 = .ok (.aload_n 2, 1) := by decide +kernel
theorem dX9_why_50 : decode cX9_why 50 = .ok (.iload_n 1, 1) := by decide +kernel
theorem dX9_why_51 : decode cX9_why 51 = .ok (.invokevirtual 168, 3) := by decide +kernel
theorem dX9_why_54 : decode cX9_why 54 = .ok (.ifCond .ne 5, 3) := by decide +kernel
theorem dX9_why_57 : decode cX9_why 57 = .ok (.iconst 1, 1) := by decide +kernel
theorem dX9_why_58 : decode cX9_why 58 = .ok (.ireturn, 1) := by decide +kernel
theorem dX9_why_59 : decode cX9_why 59 = .ok (.iload_n 3, 1) := by decide +kernel
theorem dX9_why_60 : decode cX9_why 60 = .ok (.bipush (-2), 2) := by decide +kernel
theorem dX9_why_62 : decode cX9_why 62 = .ok (.if_icmp .ne 5, 3) := by decide +kernel
theorem dX9_why_65 : decode cX9_why 65 = .ok (.iconst 2, 1) := by decide +kernel
theorem dX9_why_66 : decode cX9_why 66 = .ok (.ireturn, 1) := by decide +kernel
theorem dX9_why_67 : decode cX9_why 67 = .ok (.aload_n 2, 1) := by decide +kernel
theorem dX9_why_68 : decode cX9_why 68 = .ok (.getfield 106, 3) := by decide +kernel
theorem dX9_why_71 : decode cX9_why 71 = .ok (.iload_n 1, 1) := by decide +kernel
theorem dX9_why_72 : decode cX9_why 72 = .ok (.invokestatic 110, 3) := by decide +kernel
theorem dX9_why_75 : decode cX9_why 75 = .ok (.ifCond .ne 5, 3) := by decide +kernel
theorem dX9_why_78 : decode cX9_why 78 = .ok (.iconst 3, 1) := by decide +kernel
theorem dX9_why_79 : decode cX9_why 79 = .ok (.ireturn, 1) := by decide +kernel
theorem dX9_why_80 : decode cX9_why 80 = .ok (.aload_n 0, 1) := by decide +kernel
theorem dX9_why_81 : decode cX9_why 81 = .ok (.getfield 10, 3) := by decide +kernel
theorem dX9_why_84 : decode cX9_why 84 = .ok (.iload_n 1, 1) := by decide +kernel
theorem dX9_why_85 : decode cX9_why 85 = .ok (.iload_n 3, 1) := by decide +kernel
theorem dX9_why_86 : decode cX9_why 86 = .ok (.invokevirtual 264, 3) := by decide +kernel
theorem dX9_why_89 : decode cX9_why 89 = .ok (.ifCond .ne 5, 3) := by decide +kernel
theorem dX9_why_92 : decode cX9_why 92 = .ok (.iconst 4, 1) := by decide +kernel
theorem dX9_why_93 : decode cX9_why 93 = .ok (.ireturn, 1) := by decide +kernel
theorem dX9_why_94 : decode cX9_why 94 = .ok (.aload_n 0, 1) := by decide +kernel
theorem dX9_why_95 : decode cX9_why 95 = .ok (.getfield 10, 3) := by decide +kernel
theorem dX9_why_98 : decode cX9_why 98 = .ok (.iload_n 1, 1) := by decide +kernel
theorem dX9_why_99 : decode cX9_why 99 = .ok (.invokevirtual 267, 3) := by decide +kernel
theorem dX9_why_102 : decode cX9_why 102 = .ok (.ifCond .ne 5, 3) := by decide +kernel
theorem dX9_why_105 : decode cX9_why 105 = .ok (.iconst 5, 1) := by decide +kernel
theorem dX9_why_106 : decode cX9_why 106 = .ok (.ireturn, 1) := by decide +kernel
theorem dX9_why_107 : decode cX9_why 107 = .ok (.bipush 6, 2) := by decide +kernel
theorem dX9_why_109 : decode cX9_why 109 = .ok (.ireturn, 1) := by decide +kernel
theorem dX9_comesIn_0 : decode cX9_comesIn 0 = .ok (.aload_n 0, 1) := by decide +kernel
theorem dX9_comesIn_1 : decode cX9_comesIn 1 = .ok (.getfield 10, 3) := by decide +kernel
theorem dX9_comesIn_4 : decode cX9_comesIn 4 = .ok (.getfield 89, 3) := by decide +kernel
theorem dX9_comesIn_7 : decode cX9_comesIn 7 = .ok (.iload_n 1, 1) := by decide +kernel
theorem dX9_comesIn_8 : decode cX9_comesIn 8 = .ok (.invokevirtual 98, 3) := by decide +kernel
theorem dX9_comesIn_11 : decode cX9_comesIn 11 = .ok (.ifCond .ne 5, 3) := by decide +kernel
theorem dX9_comesIn_14 : decode cX9_comesIn 14 = .ok (.iconst (-1), 1) := by decide +kernel
theorem dX9_comesIn_15 : decode cX9_comesIn 15 = .ok (.ireturn, 1) := by decide +kernel
theorem dX9_comesIn_16 : decode cX9_comesIn 16 = .ok (.aload_n 0, 1) := by decide +kernel
theorem dX9_comesIn_17 : decode cX9_comesIn 17 = .ok (.getfield 53, 3) := by decide +kernel
theorem dX9_comesIn_20 : decode cX9_comesIn 20 = .ok (.aload_n 0, 1) := by decide +kernel
theorem dX9_comesIn_21 : decode cX9_comesIn 21 = .ok (.getfield 10, 3) := by decide +kernel
theorem dX9_comesIn_24 : decode cX9_comesIn 24 = .ok (.invokevirtual 81, 3) := by decide +kernel
theorem dX9_comesIn_27 : decode cX9_comesIn 27 = .ok (.iconst 0, 1) := by decide +kernel
theorem dX9_comesIn_28 : decode cX9_comesIn 28 = .ok (.istore_n 2, 1) := by decide +kernel
theorem dX9_comesIn_29 : decode cX9_comesIn 29 = .ok (.iload_n 2, 1) := by decide +kernel
theorem dX9_comesIn_30 : decode cX9_comesIn 30 = .ok (.sipush 300, 3) := by decide +kernel
theorem dX9_comesIn_33 : decode cX9_comesIn 33 = .ok (.if_icmp .gt 34, 3) := by decide +kernel
theorem dX9_comesIn_36 : decode cX9_comesIn 36 = .ok (.aload_n 0, 1) := by decide +kernel
theorem dX9_comesIn_37 : decode cX9_comesIn 37 = .ok (.getfield 53, 3) := by decide +kernel
theorem dX9_comesIn_40 : decode cX9_comesIn 40 = .ok (.getfield 137, 3) := by decide +kernel
theorem dX9_comesIn_43 : decode cX9_comesIn 43 = .ok (.iload_n 1, 1) := by decide +kernel
theorem dX9_comesIn_44 : decode cX9_comesIn 44 = .ok (.invokevirtual 237, 3) := by decide +kernel
theorem dX9_comesIn_47 : decode cX9_comesIn 47 = .ok (.bipush (-2), 2) := by decide +kernel
theorem dX9_comesIn_49 : decode cX9_comesIn 49 = .ok (.if_icmp .eq 5, 3) := by decide +kernel
theorem dX9_comesIn_52 : decode cX9_comesIn 52 = .ok (.iload_n 2, 1) := by decide +kernel
theorem dX9_comesIn_53 : decode cX9_comesIn 53 = .ok (.ireturn, 1) := by decide +kernel
theorem dX9_comesIn_54 : decode cX9_comesIn 54 = .ok (.aload_n 0, 1) := by decide +kernel
theorem dX9_comesIn_55 : decode cX9_comesIn 55 = .ok (.getfield 53, 3) := by decide +kernel
theorem dX9_comesIn_58 : decode cX9_comesIn 58 = .ok (.invokevirtual 183, 3) := by decide +kernel
theorem dX9_comesIn_61 : decode cX9_comesIn 61 = .ok (.iinc 2 1, 3) := by decide +kernel
theorem dX9_comesIn_64 : decode cX9_comesIn 64 = .ok (.goto (-35), 3) := by decide +kernel
theorem dX9_comesIn_67 : decode cX9_comesIn 67 = .ok (.bipush (-2), 2) := by decide +kernel
theorem dX9_comesIn_69 : decode cX9_comesIn 69 = .ok (.ireturn, 1) := by decide +kernel
theorem dX9_doneIn_0 : decode cX9_doneIn 0 = .ok (.aload_n 0, 1) := by decide +kernel
theorem dX9_doneIn_1 : decode cX9_doneIn 1 = .ok (.getfield 53, 3) := by decide +kernel
theorem dX9_doneIn_4 : decode cX9_doneIn 4 = .ok (.aload_n 0, 1) := by decide +kernel
theorem dX9_doneIn_5 : decode cX9_doneIn 5 = .ok (.getfield 10, 3) := by decide +kernel
theorem dX9_doneIn_8 : decode cX9_doneIn 8 = .ok (.invokevirtual 81, 3) := by decide +kernel
theorem dX9_doneIn_11 : decode cX9_doneIn 11 = .ok (.aload_n 0, 1) := by decide +kernel
theorem dX9_doneIn_12 : decode cX9_doneIn 12 = .ok (.sipush 500, 3) := by decide +kernel
theorem dX9_doneIn_15 : decode cX9_doneIn 15 = .ok (.invokevirtual 270, 3) := by decide +kernel
theorem dX9_doneIn_18 : decode cX9_doneIn 18 = .ok (.ireturn, 1) := by decide +kernel
theorem dX9_ifPassed_0 : decode cX9_ifPassed 0 = .ok (.iload_n 1, 1) := by decide +kernel
theorem dX9_ifPassed_1 : decode cX9_ifPassed 1 = .ok (.iload_n 2, 1) := by decide +kernel
theorem dX9_ifPassed_2 : decode cX9_ifPassed 2 = .ok (.invokestatic 273, 3) := by decide +kernel
theorem dX9_ifPassed_5 : decode cX9_ifPassed 5 = .ok (.ifCond .ne 5, 3) := by decide +kernel
theorem dX9_ifPassed_8 : decode cX9_ifPassed 8 = .ok (.iconst (-1), 1) := by decide +kernel
theorem dX9_ifPassed_9 : decode cX9_ifPassed 9 = .ok (.ireturn, 1) := by decide +kernel
theorem dX9_ifPassed_10 : decode cX9_ifPassed 10 = .ok (.aload_n 0, 1) := by decide +kernel
theorem dX9_ifPassed_11 : decode cX9_ifPassed 11 = .ok (.getfield 53, 3) := by decide +kernel
theorem dX9_ifPassed_14 : decode cX9_ifPassed 14 = .ok (.aload_n 0, 1) := by decide +kernel
theorem dX9_ifPassed_15 : decode cX9_ifPassed 15 = .ok (.getfield 10, 3) := by decide +kernel
theorem dX9_ifPassed_18 : decode cX9_ifPassed 18 = .ok (.invokevirtual 81, 3) := by decide +kernel
theorem dX9_ifPassed_21 : decode cX9_ifPassed 21 = .ok (.aload_n 0, 1) := by decide +kernel
theorem dX9_ifPassed_22 : decode cX9_ifPassed 22 = .ok (.iload_n 1, 1) := by decide +kernel
theorem dX9_ifPassed_23 : decode cX9_ifPassed 23 = .ok (.iload_n 2, 1) := by decide +kernel
theorem dX9_ifPassed_24 : decode cX9_ifPassed 24 = .ok (.invokevirtual 276, 3) := by decide +kernel
theorem dX9_ifPassed_27 : decode cX9_ifPassed 27 = .ok (.ireturn, 1) := by decide +kernel
theorem dX9_ifRule_0 : decode cX9_ifRule 0 = .ok (.iload_n 1, 1) := by decide +kernel
theorem dX9_ifRule_1 : decode cX9_ifRule 1 = .ok (.iload_n 2, 1) := by decide +kernel
theorem dX9_ifRule_2 : decode cX9_ifRule 2 = .ok (.invokestatic 199, 3) := by decide +kernel
theorem dX9_ifRule_5 : decode cX9_ifRule 5 = .ok (.ifCond .eq 12, 3) := by decide +kernel
theorem dX9_ifRule_8 : decode cX9_ifRule 8 = .ok (.iload_n 3, 1) := by decide +kernel
theorem dX9_ifRule_9 : decode cX9_ifRule 9 = .ok (.iload 4, 2) := by decide +kernel
theorem dX9_ifRule_11 : decode cX9_ifRule 11 = .ok (.invokestatic 273, 3) := by decide +kernel
theorem dX9_ifRule_14 : decode cX9_ifRule 14 = .ok (.ifCond .ne 5, 3) := by decide +kernel
theorem dX9_ifRule_17 : decode cX9_ifRule 17 = .ok (.iconst (-1), 1) := by decide +kernel
theorem dX9_ifRule_18 : decode cX9_ifRule 18 = .ok (.ireturn, 1) := by decide +kernel
theorem dX9_ifRule_19 : decode cX9_ifRule 19 = .ok (.aload_n 0, 1) := by decide +kernel
theorem dX9_ifRule_20 : decode cX9_ifRule 20 = .ok (.getfield 53, 3) := by decide +kernel
theorem dX9_ifRule_23 : decode cX9_ifRule 23 = .ok (.aload_n 0, 1) := by decide +kernel
theorem dX9_ifRule_24 : decode cX9_ifRule 24 = .ok (.getfield 10, 3) := by decide +kernel
theorem dX9_ifRule_27 : decode cX9_ifRule 27 = .ok (.invokevirtual 81, 3) := by decide +kernel
theorem dX9_ifRule_30 : decode cX9_ifRule 30 = .ok (.aload_n 0, 1) := by decide +kernel
theorem dX9_ifRule_31 : decode cX9_ifRule 31 = .ok (.getfield 53, 3) := by decide +kernel
theorem dX9_ifRule_34 : decode cX9_ifRule 34 = .ok (.getfield 203, 3) := by decide +kernel
theorem dX9_ifRule_37 : decode cX9_ifRule 37 = .ok (.iload_n 1, 1) := by decide +kernel
theorem dX9_ifRule_38 : decode cX9_ifRule 38 = .ok (.iload_n 2, 1) := by decide +kernel
theorem dX9_ifRule_39 : decode cX9_ifRule 39 = .ok (.invokestatic 195, 3) := by decide +kernel
theorem dX9_ifRule_42 : decode cX9_ifRule 42 = .ok (.aload_n 0, 1) := by decide +kernel
theorem dX9_ifRule_43 : decode cX9_ifRule 43 = .ok (.iload_n 3, 1) := by decide +kernel
theorem dX9_ifRule_44 : decode cX9_ifRule 44 = .ok (.iload 4, 2) := by decide +kernel
theorem dX9_ifRule_46 : decode cX9_ifRule 46 = .ok (.invokevirtual 276, 3) := by decide +kernel
theorem dX9_ifRule_49 : decode cX9_ifRule 49 = .ok (.ireturn, 1) := by decide +kernel
theorem dX9_ifShut_0 : decode cX9_ifShut 0 = .ok (.aload_n 0, 1) := by decide +kernel
theorem dX9_ifShut_1 : decode cX9_ifShut 1 = .ok (.getfield 10, 3) := by decide +kernel
theorem dX9_ifShut_4 : decode cX9_ifShut 4 = .ok (.getfield 89, 3) := by decide +kernel
theorem dX9_ifShut_7 : decode cX9_ifShut 7 = .ok (.iload_n 1, 1) := by decide +kernel
theorem dX9_ifShut_8 : decode cX9_ifShut 8 = .ok (.invokevirtual 98, 3) := by decide +kernel
theorem dX9_ifShut_11 : decode cX9_ifShut 11 = .ok (.ifCond .eq 11, 3) := by decide +kernel
theorem dX9_ifShut_14 : decode cX9_ifShut 14 = .ok (.iload_n 2, 1) := by decide +kernel
theorem dX9_ifShut_15 : decode cX9_ifShut 15 = .ok (.iload_n 3, 1) := by decide +kernel
theorem dX9_ifShut_16 : decode cX9_ifShut 16 = .ok (.invokestatic 273, 3) := by decide +kernel
theorem dX9_ifShut_19 : decode cX9_ifShut 19 = .ok (.ifCond .ne 5, 3) := by decide +kernel
theorem dX9_ifShut_22 : decode cX9_ifShut 22 = .ok (.iconst (-1), 1) := by decide +kernel
theorem dX9_ifShut_23 : decode cX9_ifShut 23 = .ok (.ireturn, 1) := by decide +kernel
theorem dX9_ifShut_24 : decode cX9_ifShut 24 = .ok (.aload_n 0, 1) := by decide +kernel
theorem dX9_ifShut_25 : decode cX9_ifShut 25 = .ok (.getfield 53, 3) := by decide +kernel
theorem dX9_ifShut_28 : decode cX9_ifShut 28 = .ok (.aload_n 0, 1) := by decide +kernel
theorem dX9_ifShut_29 : decode cX9_ifShut 29 = .ok (.getfield 10, 3) := by decide +kernel
theorem dX9_ifShut_32 : decode cX9_ifShut 32 = .ok (.invokevirtual 81, 3) := by decide +kernel
theorem dX9_ifShut_35 : decode cX9_ifShut 35 = .ok (.aload_n 0, 1) := by decide +kernel
theorem dX9_ifShut_36 : decode cX9_ifShut 36 = .ok (.getfield 53, 3) := by decide +kernel
theorem dX9_ifShut_39 : decode cX9_ifShut 39 = .ok (.iload_n 1, 1) := by decide +kernel
theorem dX9_ifShut_40 : decode cX9_ifShut 40 = .ok (.aload_n 0, 1) := by decide +kernel
theorem dX9_ifShut_41 : decode cX9_ifShut 41 = .ok (.getfield 10, 3) := by decide +kernel
theorem dX9_ifShut_44 : decode cX9_ifShut 44 = .ok (.getfield 89, 3) := by decide +kernel
theorem dX9_ifShut_47 : decode cX9_ifShut 47 = .ok (.iload_n 1, 1) := by decide +kernel
theorem dX9_ifShut_48 : decode cX9_ifShut 48 = .ok (.invokevirtual 168, 3) := by decide +kernel
theorem dX9_ifShut_51 : decode cX9_ifShut 51 = .ok (.ifCond .eq 7, 3) := by decide +kernel
theorem dX9_ifShut_54 : decode cX9_ifShut 54 = .ok (.iconst 0, 1) := by decide +kernel
theorem dX9_ifShut_55 : decode cX9_ifShut 55 = .ok (.goto 4, 3) := by decide +kernel
theorem dX9_ifShut_58 : decode cX9_ifShut 58 = .ok (.iconst 1, 1) := by decide +kernel
theorem dX9_ifShut_59 : decode cX9_ifShut 59 = .ok (.invokevirtual 158, 3) := by decide +kernel
theorem dX9_ifShut_62 : decode cX9_ifShut 62 = .ok (.aload_n 0, 1) := by decide +kernel
theorem dX9_ifShut_63 : decode cX9_ifShut 63 = .ok (.iload_n 2, 1) := by decide +kernel
theorem dX9_ifShut_64 : decode cX9_ifShut 64 = .ok (.iload_n 3, 1) := by decide +kernel
theorem dX9_ifShut_65 : decode cX9_ifShut 65 = .ok (.invokevirtual 276, 3) := by decide +kernel
theorem dX9_ifShut_68 : decode cX9_ifShut 68 = .ok (.ireturn, 1) := by decide +kernel
theorem dX9_bestSpeak_0 : decode cX9_bestSpeak 0 = .ok (.iload_n 1, 1) := by decide +kernel
theorem dX9_bestSpeak_1 : decode cX9_bestSpeak 1 = .ok (.iconst 0, 1) := by decide +kernel
theorem dX9_bestSpeak_2 : decode cX9_bestSpeak 2 = .ok (.invokestatic 273, 3) := by decide +kernel
theorem dX9_bestSpeak_5 : decode cX9_bestSpeak 5 = .ok (.ifCond .ne 5, 3) := by decide +kernel
theorem dX9_bestSpeak_8 : decode cX9_bestSpeak 8 = .ok (.iconst (-1), 1) := by decide +kernel
theorem dX9_bestSpeak_9 : decode cX9_bestSpeak 9 = .ok (.ireturn, 1) := by decide +kernel
theorem dX9_bestSpeak_10 : decode cX9_bestSpeak 10 = .ok (.iconst 1, 1) := by decide +kernel
theorem dX9_bestSpeak_11 : decode cX9_bestSpeak 11 = .ok (.istore_n 2, 1) := by decide +kernel
theorem dX9_bestSpeak_12 : decode cX9_bestSpeak 12 = .ok (.iconst (-1), 1) := by decide +kernel
theorem dX9_bestSpeak_13 : decode cX9_bestSpeak 13 = .ok (.istore_n 3, 1) := by decide +kernel
theorem dX9_bestSpeak_14 : decode cX9_bestSpeak 14 = .ok (.iconst 1, 1) := by decide +kernel
theorem dX9_bestSpeak_15 : decode cX9_bestSpeak 15 = .ok (.istore 4, 2) := by decide +kernel
theorem dX9_bestSpeak_17 : decode cX9_bestSpeak 17 = .ok (.iload 4, 2) := by decide +kernel
theorem dX9_bestSpeak_19 : decode cX9_bestSpeak 19 = .ok (.bipush 20, 2) := by decide +kernel
theorem dX9_bestSpeak_21 : decode cX9_bestSpeak 21 = .ok (.if_icmp .gt 53, 3) := by decide +kernel
theorem dX9_bestSpeak_24 : decode cX9_bestSpeak 24 = .ok (.aload_n 0, 1) := by decide +kernel
theorem dX9_bestSpeak_25 : decode cX9_bestSpeak 25 = .ok (.getfield 53, 3) := by decide +kernel
theorem dX9_bestSpeak_28 : decode cX9_bestSpeak 28 = .ok (.aload_n 0, 1) := by decide +kernel
theorem dX9_bestSpeak_29 : decode cX9_bestSpeak 29 = .ok (.getfield 10, 3) := by decide +kernel
theorem dX9_bestSpeak_32 : decode cX9_bestSpeak 32 = .ok (.invokevirtual 81, 3) := by decide +kernel
theorem dX9_bestSpeak_35 : decode cX9_bestSpeak 35 = .ok (.aload_n 0, 1) := by decide +kernel
theorem dX9_bestSpeak_36 : decode cX9_bestSpeak 36 = .ok (.getfield 53, 3) := by decide +kernel
theorem dX9_bestSpeak_39 : decode cX9_bestSpeak 39 = .ok (.getfield 203, 3) := by decide +kernel
theorem dX9_bestSpeak_42 : decode cX9_bestSpeak 42 = .ok (.iconst 0, 1) := by decide +kernel
theorem dX9_bestSpeak_43 : decode cX9_bestSpeak 43 = .ok (.iload 4, 2) := by decide +kernel
theorem dX9_bestSpeak_45 : decode cX9_bestSpeak 45 = .ok (.invokestatic 195, 3) := by decide +kernel
theorem dX9_bestSpeak_48 : decode cX9_bestSpeak 48 = .ok (.aload_n 0, 1) := by decide +kernel
theorem dX9_bestSpeak_49 : decode cX9_bestSpeak 49 = .ok (.iload_n 1, 1) := by decide +kernel
theorem dX9_bestSpeak_50 : decode cX9_bestSpeak 50 = .ok (.iconst 0, 1) := by decide +kernel
theorem dX9_bestSpeak_51 : decode cX9_bestSpeak 51 = .ok (.invokevirtual 276, 3) := by decide +kernel
theorem dX9_bestSpeak_54 : decode cX9_bestSpeak 54 = .ok (.istore 5, 2) := by decide +kernel
theorem dX9_bestSpeak_56 : decode cX9_bestSpeak 56 = .ok (.iload 5, 2) := by decide +kernel
theorem dX9_bestSpeak_58 : decode cX9_bestSpeak 58 = .ok (.iload_n 3, 1) := by decide +kernel
theorem dX9_bestSpeak_59 : decode cX9_bestSpeak 59 = .ok (.if_icmp .le 9, 3) := by decide +kernel
theorem dX9_bestSpeak_62 : decode cX9_bestSpeak 62 = .ok (.iload 4, 2) := by decide +kernel
theorem dX9_bestSpeak_64 : decode cX9_bestSpeak 64 = .ok (.istore_n 2, 1) := by decide +kernel
theorem dX9_bestSpeak_65 : decode cX9_bestSpeak 65 = .ok (.iload 5, 2) := by decide +kernel
theorem dX9_bestSpeak_67 : decode cX9_bestSpeak 67 = .ok (.istore_n 3, 1) := by decide +kernel
theorem dX9_bestSpeak_68 : decode cX9_bestSpeak 68 = .ok (.iinc 4 1, 3) := by decide +kernel
theorem dX9_bestSpeak_71 : decode cX9_bestSpeak 71 = .ok (.goto (-54), 3) := by decide +kernel
theorem dX9_bestSpeak_74 : decode cX9_bestSpeak 74 = .ok (.iload_n 2, 1) := by decide +kernel
theorem dX9_bestSpeak_75 : decode cX9_bestSpeak 75 = .ok (.ireturn, 1) := by decide +kernel
theorem dX9_leastQuota_0 : decode cX9_leastQuota 0 = .ok (.aload_n 0, 1) := by decide +kernel
theorem dX9_leastQuota_1 : decode cX9_leastQuota 1 = .ok (.getfield 53, 3) := by decide +kernel
theorem dX9_leastQuota_4 : decode cX9_leastQuota 4 = .ok (.aload_n 0, 1) := by decide +kernel
theorem dX9_leastQuota_5 : decode cX9_leastQuota 5 = .ok (.getfield 10, 3) := by decide +kernel
theorem dX9_leastQuota_8 : decode cX9_leastQuota 8 = .ok (.invokevirtual 81, 3) := by decide +kernel
theorem dX9_leastQuota_11 : decode cX9_leastQuota 11 = .ok (.aload_n 0, 1) := by decide +kernel
theorem dX9_leastQuota_12 : decode cX9_leastQuota 12 = .ok (.sipush 500, 3) := by decide +kernel
theorem dX9_leastQuota_15 : decode cX9_leastQuota 15 = .ok (.invokevirtual 270, 3) := by decide +kernel
theorem dX9_leastQuota_18 : decode cX9_leastQuota 18 = .ok (.istore_n 1, 1) := by decide +kernel
theorem dX9_leastQuota_19 : decode cX9_leastQuota 19 = .ok (.iload_n 1, 1) := by decide +kernel
theorem dX9_leastQuota_20 : decode cX9_leastQuota 20 = .ok (.bipush (-2), 2) := by decide +kernel
theorem dX9_leastQuota_22 : decode cX9_leastQuota 22 = .ok (.if_icmp .ne 6, 3) := by decide +kernel
theorem dX9_leastQuota_25 : decode cX9_leastQuota 25 = .ok (.bipush (-2), 2) := by decide +kernel
theorem dX9_leastQuota_27 : decode cX9_leastQuota 27 = .ok (.ireturn, 1) := by decide +kernel
theorem dX9_leastQuota_28 : decode cX9_leastQuota 28 = .ok (.iconst 1, 1) := by decide +kernel
theorem dX9_leastQuota_29 : decode cX9_leastQuota 29 = .ok (.istore_n 2, 1) := by decide +kernel
theorem dX9_leastQuota_30 : decode cX9_leastQuota 30 = .ok (.iload_n 2, 1) := by decide +kernel
theorem dX9_leastQuota_31 : decode cX9_leastQuota 31 = .ok (.bipush 60, 2) := by decide +kernel
theorem dX9_leastQuota_33 : decode cX9_leastQuota 33 = .ok (.if_icmp .gt 44, 3) := by decide +kernel
theorem dX9_leastQuota_36 : decode cX9_leastQuota 36 = .ok (.aload_n 0, 1) := by decide +kernel
theorem dX9_leastQuota_37 : decode cX9_leastQuota 37 = .ok (.getfield 53, 3) := by decide +kernel
theorem dX9_leastQuota_40 : decode cX9_leastQuota 40 = .ok (.aload_n 0, 1) := by decide +kernel
theorem dX9_leastQuota_41 : decode cX9_leastQuota 41 = .ok (.getfield 10, 3) := by decide +kernel
theorem dX9_leastQuota_44 : decode cX9_leastQuota 44 = .ok (.invokevirtual 81, 3) := by decide +kernel
theorem dX9_leastQuota_47 : decode cX9_leastQuota 47 = .ok (.aload_n 0, 1) := by decide +kernel
theorem dX9_leastQuota_48 : decode cX9_leastQuota 48 = .ok (.getfield 53, 3) := by decide +kernel
theorem dX9_leastQuota_51 : decode cX9_leastQuota 51 = .ok (.getfield 203, 3) := by decide +kernel
theorem dX9_leastQuota_54 : decode cX9_leastQuota 54 = .ok (.iconst 2, 1) := by decide +kernel
theorem dX9_leastQuota_55 : decode cX9_leastQuota 55 = .ok (.iload_n 2, 1) := by decide +kernel
theorem dX9_leastQuota_56 : decode cX9_leastQuota 56 = .ok (.invokestatic 195, 3) := by decide +kernel
theorem dX9_leastQuota_59 : decode cX9_leastQuota 59 = .ok (.aload_n 0, 1) := by decide +kernel
theorem dX9_leastQuota_60 : decode cX9_leastQuota 60 = .ok (.iload_n 1, 1) := by decide +kernel
theorem dX9_leastQuota_61 : decode cX9_leastQuota 61 = .ok (.invokevirtual 270, 3) := by decide +kernel
theorem dX9_leastQuota_64 : decode cX9_leastQuota 64 = .ok (.bipush (-2), 2) := by decide +kernel
theorem dX9_leastQuota_66 : decode cX9_leastQuota 66 = .ok (.if_icmp .eq 5, 3) := by decide +kernel
theorem dX9_leastQuota_69 : decode cX9_leastQuota 69 = .ok (.iload_n 2, 1) := by decide +kernel
theorem dX9_leastQuota_70 : decode cX9_leastQuota 70 = .ok (.ireturn, 1) := by decide +kernel
theorem dX9_leastQuota_71 : decode cX9_leastQuota 71 = .ok (.iinc 2 1, 3) := by decide +kernel
theorem dX9_leastQuota_74 : decode cX9_leastQuota 74 = .ok (.goto (-44), 3) := by decide +kernel
theorem dX9_leastQuota_77 : decode cX9_leastQuota 77 = .ok (.bipush (-2), 2) := by decide +kernel
theorem dX9_leastQuota_79 : decode cX9_leastQuota 79 = .ok (.ireturn, 1) := by decide +kernel
theorem dX9_spoken_0 : decode cX9_spoken 0 = .ok (.aload_n 0, 1) := by decide +kernel
theorem dX9_spoken_1 : decode cX9_spoken 1 = .ok (.getfield 10, 3) := by decide +kernel
theorem dX9_spoken_4 : decode cX9_spoken 4 = .ok (.getfield 180, 3) := by decide +kernel
theorem dX9_spoken_7 : decode cX9_spoken 7 = .ok (.ifCond .ne 5, 3) := by decide +kernel
theorem dX9_spoken_10 : decode cX9_spoken 10 = .ok (.fconst 0, 1) := by decide +kernel
theorem dX9_spoken_11 : decode cX9_spoken 11 = .ok (.freturn, 1) := by decide +kernel
theorem dX9_spoken_12 : decode cX9_spoken 12 = .ok (.aload_n 0, 1) := by decide +kernel
theorem dX9_spoken_13 : decode cX9_spoken 13 = .ok (.getfield 10, 3) := by decide +kernel
theorem dX9_spoken_16 : decode cX9_spoken 16 = .ok (.getfield 121, 3) := by decide +kernel
theorem dX9_spoken_19 : decode cX9_spoken 19 = .ok (.bipush 8, 2) := by decide +kernel
theorem dX9_spoken_21 : decode cX9_spoken 21 = .ok (.invokestatic 110, 3) := by decide +kernel
theorem dX9_spoken_24 : decode cX9_spoken 24 = .ok (.i2f, 1) := by decide +kernel
theorem dX9_spoken_25 : decode cX9_spoken 25 = .ok (.aload_n 0, 1) := by decide +kernel
theorem dX9_spoken_26 : decode cX9_spoken 26 = .ok (.getfield 10, 3) := by decide +kernel
theorem dX9_spoken_29 : decode cX9_spoken 29 = .ok (.getfield 180, 3) := by decide +kernel
theorem dX9_spoken_32 : decode cX9_spoken 32 = .ok (.i2f, 1) := by decide +kernel
theorem dX9_spoken_33 : decode cX9_spoken 33 = .ok (.fdiv, 1) := by decide +kernel
theorem dX9_spoken_34 : decode cX9_spoken 34 = .ok (.freturn, 1) := by decide +kernel
theorem dX9_meanLength_0 : decode cX9_meanLength 0 = .ok (.aload_n 0, 1) := by decide +kernel
theorem dX9_meanLength_1 : decode cX9_meanLength 1 = .ok (.getfield 10, 3) := by decide +kernel
theorem dX9_meanLength_4 : decode cX9_meanLength 4 = .ok (.getfield 89, 3) := by decide +kernel
theorem dX9_meanLength_7 : decode cX9_meanLength 7 = .ok (.invokevirtual 224, 3) := by decide +kernel
theorem dX9_meanLength_10 : decode cX9_meanLength 10 = .ok (.istore_n 1, 1) := by decide +kernel
theorem dX9_meanLength_11 : decode cX9_meanLength 11 = .ok (.iload_n 1, 1) := by decide +kernel
theorem dX9_meanLength_12 : decode cX9_meanLength 12 = .ok (.ifCond .ne 5, 3) := by decide +kernel
theorem dX9_meanLength_15 : decode cX9_meanLength 15 = .ok (.dconst 0, 1) := by decide +kernel
theorem dX9_meanLength_16 : decode cX9_meanLength 16 = .ok (.dreturn, 1) := by decide +kernel
theorem dX9_meanLength_17 : decode cX9_meanLength 17 = .ok (.aload_n 0, 1) := by decide +kernel
theorem dX9_meanLength_18 : decode cX9_meanLength 18 = .ok (.getfield 10, 3) := by decide +kernel
theorem dX9_meanLength_21 : decode cX9_meanLength 21 = .ok (.getfield 89, 3) := by decide +kernel
theorem dX9_meanLength_24 : decode cX9_meanLength 24 = .ok (.invokevirtual 227, 3) := by decide +kernel
theorem dX9_meanLength_27 : decode cX9_meanLength 27 = .ok (.i2d, 1) := by decide +kernel
theorem dX9_meanLength_28 : decode cX9_meanLength 28 = .ok (.iload_n 1, 1) := by decide +kernel
theorem dX9_meanLength_29 : decode cX9_meanLength 29 = .ok (.i2d, 1) := by decide +kernel
theorem dX9_meanLength_30 : decode cX9_meanLength 30 = .ok (.ddiv, 1) := by decide +kernel
theorem dX9_meanLength_31 : decode cX9_meanLength 31 = .ok (.dreturn, 1) := by decide +kernel
theorem dX9_setupLength_0 : decode cX9_setupLength 0 = .ok (.aload_n 0, 1) := by decide +kernel
theorem dX9_setupLength_1 : decode cX9_setupLength 1 = .ok (.invokevirtual 288, 3) := by decide +kernel
theorem dX9_setupLength_4 : decode cX9_setupLength 4 = .ok (.aload_n 0, 1) := by decide +kernel
theorem dX9_setupLength_5 : decode cX9_setupLength 5 = .ok (.getfield 61, 3) := by decide +kernel
theorem dX9_setupLength_8 : decode cX9_setupLength 8 = .ok (.getfield 71, 3) := by decide +kernel
theorem dX9_setupLength_11 : decode cX9_setupLength 11 = .ok (.ireturn, 1) := by decide +kernel
theorem dX9_setupByte_0 : decode cX9_setupByte 0 = .ok (.iload_n 1, 1) := by decide +kernel
theorem dX9_setupByte_1 : decode cX9_setupByte 1 = .ok (.ifCond .ge 5, 3) := by decide +kernel
theorem dX9_setupByte_4 : decode cX9_setupByte 4 = .ok (.iconst (-1), 1) := by decide +kernel
theorem dX9_setupByte_5 : decode cX9_setupByte 5 = .ok (.ireturn, 1) := by decide +kernel
theorem dX9_setupByte_6 : decode cX9_setupByte 6 = .ok (.aload_n 0, 1) := by decide +kernel
theorem dX9_setupByte_7 : decode cX9_setupByte 7 = .ok (.invokevirtual 288, 3) := by decide +kernel
theorem dX9_setupByte_10 : decode cX9_setupByte 10 = .ok (.aload_n 0, 1) := by decide +kernel
theorem dX9_setupByte_11 : decode cX9_setupByte 11 = .ok (.getfield 61, 3) := by decide +kernel
theorem dX9_setupByte_14 : decode cX9_setupByte 14 = .ok (.iload_n 1, 1) := by decide +kernel
theorem dX9_setupByte_15 : decode cX9_setupByte 15 = .ok (.invokevirtual 285, 3) := by decide +kernel
theorem dX9_setupByte_18 : decode cX9_setupByte 18 = .ok (.ireturn, 1) := by decide +kernel
theorem dX9_at_0 : decode cX9_at 0 = .ok (.iload_n 1, 1) := by decide +kernel
theorem dX9_at_1 : decode cX9_at 1 = .ok (.ifCond .lt 15, 3) := by decide +kernel
theorem dX9_at_4 : decode cX9_at 4 = .ok (.iload_n 1, 1) := by decide +kernel
theorem dX9_at_5 : decode cX9_at 5 = .ok (.aload_n 0, 1) := by decide +kernel
theorem dX9_at_6 : decode cX9_at 6 = .ok (.arraylength, 1) := by decide +kernel
theorem dX9_at_7 : decode cX9_at 7 = .ok (.if_icmp .ge 9, 3) := by decide +kernel
theorem dX9_at_10 : decode cX9_at 10 = .ok (.aload_n 0, 1) := by decide +kernel
theorem dX9_at_11 : decode cX9_at 11 = .ok (.iload_n 1, 1) := by decide +kernel
theorem dX9_at_12 : decode cX9_at 12 = .ok (.iaload, 1) := by decide +kernel
theorem dX9_at_13 : decode cX9_at 13 = .ok (.goto 4, 3) := by decide +kernel
theorem dX9_at_16 : decode cX9_at 16 = .ok (.iconst 0, 1) := by decide +kernel
theorem dX9_at_17 : decode cX9_at 17 = .ok (.ireturn, 1) := by decide +kernel
theorem dX9_put_0 : decode cX9_put 0 = .ok (.iload_n 1, 1) := by decide +kernel
theorem dX9_put_1 : decode cX9_put 1 = .ok (.ifCond .lt 13, 3) := by decide +kernel
theorem dX9_put_4 : decode cX9_put 4 = .ok (.iload_n 1, 1) := by decide +kernel
theorem dX9_put_5 : decode cX9_put 5 = .ok (.aload_n 0, 1) := by decide +kernel
theorem dX9_put_6 : decode cX9_put 6 = .ok (.arraylength, 1) := by decide +kernel
theorem dX9_put_7 : decode cX9_put 7 = .ok (.if_icmp .ge 7, 3) := by decide +kernel
theorem dX9_put_10 : decode cX9_put 10 = .ok (.aload_n 0, 1) := by decide +kernel
theorem dX9_put_11 : decode cX9_put 11 = .ok (.iload_n 1, 1) := by decide +kernel
theorem dX9_put_12 : decode cX9_put 12 = .ok (.iload_n 2, 1) := by decide +kernel
theorem dX9_put_13 : decode cX9_put 13 = .ok (.iastore, 1) := by decide +kernel
theorem dX9_put_14 : decode cX9_put 14 = .ok (.return_, 1) := by decide +kernel
theorem dX9_raise_0 : decode cX9_raise 0 = .ok (.iload_n 1, 1) := by decide +kernel
theorem dX9_raise_1 : decode cX9_raise 1 = .ok (.ifCond .lt 16, 3) := by decide +kernel
theorem dX9_raise_4 : decode cX9_raise 4 = .ok (.iload_n 1, 1) := by decide +kernel
theorem dX9_raise_5 : decode cX9_raise 5 = .ok (.aload_n 0, 1) := by decide +kernel
theorem dX9_raise_6 : decode cX9_raise 6 = .ok (.arraylength, 1) := by decide +kernel
theorem dX9_raise_7 : decode cX9_raise 7 = .ok (.if_icmp .ge 10, 3) := by decide +kernel
theorem dX9_raise_10 : decode cX9_raise 10 = .ok (.aload_n 0, 1) := by decide +kernel
theorem dX9_raise_11 : decode cX9_raise 11 = .ok (.iload_n 1, 1) := by decide +kernel
theorem dX9_raise_12 : decode cX9_raise 12 = .ok (.dup2, 1) := by decide +kernel
theorem dX9_raise_13 : decode cX9_raise 13 = .ok (.iaload, 1) := by decide +kernel
theorem dX9_raise_14 : decode cX9_raise 14 = .ok (.iconst 1, 1) := by decide +kernel
theorem dX9_raise_15 : decode cX9_raise 15 = .ok (.iadd, 1) := by decide +kernel
theorem dX9_raise_16 : decode cX9_raise 16 = .ok (.iastore, 1) := by decide +kernel
theorem dX9_raise_17 : decode cX9_raise 17 = .ok (.return_, 1) := by decide +kernel
theorem dX9_copyRow_0 : decode cX9_copyRow 0 = .ok (.aload_n 0, 1) := by decide +kernel
theorem dX9_copyRow_1 : decode cX9_copyRow 1 = .ok (.iconst 0, 1) := by decide +kernel
theorem dX9_copyRow_2 : decode cX9_copyRow 2 = .ok (.aload_n 1, 1) := by decide +kernel
theorem dX9_copyRow_3 : decode cX9_copyRow 3 = .ok (.iconst 0, 1) := by decide +kernel
theorem dX9_copyRow_4 : decode cX9_copyRow 4 = .ok (.aload_n 0, 1) := by decide +kernel
theorem dX9_copyRow_5 : decode cX9_copyRow 5 = .ok (.arraylength, 1) := by decide +kernel
theorem dX9_copyRow_6 : decode cX9_copyRow 6 = .ok (.aload_n 1, 1) := by decide +kernel
theorem dX9_copyRow_7 : decode cX9_copyRow 7 = .ok (.arraylength, 1) := by decide +kernel
theorem dX9_copyRow_8 : decode cX9_copyRow 8 = .ok (.invokestatic 291, 3) := by decide +kernel
theorem dX9_copyRow_11 : decode cX9_copyRow 11 = .ok (.invokestatic 296, 3) := by decide +kernel
theorem dX9_copyRow_14 : decode cX9_copyRow 14 = .ok (.return_, 1) := by decide +kernel
theorem dX9_takeOut_0 : decode cX9_takeOut 0 = .ok (.iload_n 1, 1) := by decide +kernel
theorem dX9_takeOut_1 : decode cX9_takeOut 1 = .ok (.ifCond .lt 14, 3) := by decide +kernel
theorem dX9_takeOut_4 : decode cX9_takeOut 4 = .ok (.iload_n 1, 1) := by decide +kernel
theorem dX9_takeOut_5 : decode cX9_takeOut 5 = .ok (.iload_n 2, 1) := by decide +kernel
theorem dX9_takeOut_6 : decode cX9_takeOut 6 = .ok (.if_icmp .ge 9, 3) := by decide +kernel
theorem dX9_takeOut_9 : decode cX9_takeOut 9 = .ok (.iload_n 2, 1) := by decide +kernel
theorem dX9_takeOut_10 : decode cX9_takeOut 10 = .ok (.aload_n 0, 1) := by decide +kernel
theorem dX9_takeOut_11 : decode cX9_takeOut 11 = .ok (.arraylength, 1) := by decide +kernel
theorem dX9_takeOut_12 : decode cX9_takeOut 12 = .ok (.if_icmp .le 4, 3) := by decide +kernel
theorem dX9_takeOut_15 : decode cX9_takeOut 15 = .ok (.return_, 1) := by decide +kernel
theorem dX9_takeOut_16 : decode cX9_takeOut 16 = .ok (.aload_n 0, 1) := by decide +kernel
theorem dX9_takeOut_17 : decode cX9_takeOut 17 = .ok (.iload_n 1, 1) := by decide +kernel
theorem dX9_takeOut_18 : decode cX9_takeOut 18 = .ok (.iconst 1, 1) := by decide +kernel
theorem dX9_takeOut_19 : decode cX9_takeOut 19 = .ok (.iadd, 1) := by decide +kernel
theorem dX9_takeOut_20 : decode cX9_takeOut 20 = .ok (.aload_n 0, 1) := by decide +kernel
theorem dX9_takeOut_21 : decode cX9_takeOut 21 = .ok (.iload_n 1, 1) := by decide +kernel
theorem dX9_takeOut_22 : decode cX9_takeOut 22 = .ok (.iload_n 2, 1) := by decide +kernel
theorem dX9_takeOut_23 : decode cX9_takeOut 23 = .ok (.iload_n 1, 1) := by decide +kernel
theorem dX9_takeOut_24 : decode cX9_takeOut 24 = .ok (.isub, 1) := by decide +kernel
theorem dX9_takeOut_25 : decode cX9_takeOut 25 = .ok (.iconst 1, 1) := by decide +kernel
theorem dX9_takeOut_26 : decode cX9_takeOut 26 = .ok (.isub, 1) := by decide +kernel
theorem dX9_takeOut_27 : decode cX9_takeOut 27 = .ok (.invokestatic 296, 3) := by decide +kernel
theorem dX9_takeOut_30 : decode cX9_takeOut 30 = .ok (.return_, 1) := by decide +kernel
theorem dX9_isWithin_0 : decode cX9_isWithin 0 = .ok (.iload_n 0, 1) := by decide +kernel
theorem dX9_isWithin_1 : decode cX9_isWithin 1 = .ok (.iload_n 1, 1) := by decide +kernel
theorem dX9_isWithin_2 : decode cX9_isWithin 2 = .ok (.if_icmp .lt 12, 3) := by decide +kernel
theorem dX9_isWithin_5 : decode cX9_isWithin 5 = .ok (.iload_n 0, 1) := by decide +kernel
theorem dX9_isWithin_6 : decode cX9_isWithin 6 = .ok (.iload_n 2, 1) := by decide +kernel
theorem dX9_isWithin_7 : decode cX9_isWithin 7 = .ok (.if_icmp .gt 7, 3) := by decide +kernel
theorem dX9_isWithin_10 : decode cX9_isWithin 10 = .ok (.iconst 1, 1) := by decide +kernel
theorem dX9_isWithin_11 : decode cX9_isWithin 11 = .ok (.goto 4, 3) := by decide +kernel
theorem dX9_isWithin_14 : decode cX9_isWithin 14 = .ok (.iconst 0, 1) := by decide +kernel
theorem dX9_isWithin_15 : decode cX9_isWithin 15 = .ok (.ireturn, 1) := by decide +kernel
theorem dX9_mostOfRule_0 : decode cX9_mostOfRule 0 = .ok (.iload_n 0, 1) := by decide +kernel
theorem dX9_mostOfRule_1 : decode cX9_mostOfRule 1 = .ok (.tableswitch 36 0 2 #[27, 30, 33], 27) := by decide +kernel
theorem dX9_mostOfRule_28 : decode cX9_mostOfRule 28 = .ok (.bipush 20, 2) := by decide +kernel
theorem dX9_mostOfRule_30 : decode cX9_mostOfRule 30 = .ok (.ireturn, 1) := by decide +kernel
theorem dX9_mostOfRule_31 : decode cX9_mostOfRule 31 = .ok (.bipush 99, 2) := by decide +kernel
theorem dX9_mostOfRule_33 : decode cX9_mostOfRule 33 = .ok (.ireturn, 1) := by decide +kernel
theorem dX9_mostOfRule_34 : decode cX9_mostOfRule 34 = .ok (.bipush 60, 2) := by decide +kernel
theorem dX9_mostOfRule_36 : decode cX9_mostOfRule 36 = .ok (.ireturn, 1) := by decide +kernel
theorem dX9_mostOfRule_37 : decode cX9_mostOfRule 37 = .ok (.iconst 0, 1) := by decide +kernel
theorem dX9_mostOfRule_38 : decode cX9_mostOfRule 38 = .ok (.ireturn, 1) := by decide +kernel
theorem dX9_isRule_0 : decode cX9_isRule 0 = .ok (.iload_n 1, 1) := by decide +kernel
theorem dX9_isRule_1 : decode cX9_isRule 1 = .ok (.iconst 1, 1) := by decide +kernel
theorem dX9_isRule_2 : decode cX9_isRule 2 = .ok (.iload_n 0, 1) := by decide +kernel
theorem dX9_isRule_3 : decode cX9_isRule 3 = .ok (.invokestatic 302, 3) := by decide +kernel
theorem dX9_isRule_6 : decode cX9_isRule 6 = .ok (.invokestatic 102, 3) := by decide +kernel
theorem dX9_isRule_9 : decode cX9_isRule 9 = .ok (.ireturn, 1) := by decide +kernel
theorem dX9_isForesight_0 : decode cX9_isForesight 0 = .ok (.iload_n 0, 1) := by decide +kernel
theorem dX9_isForesight_1 : decode cX9_isForesight 1 = .ok (.iconst 0, 1) := by decide +kernel
theorem dX9_isForesight_2 : decode cX9_isForesight 2 = .ok (.sipush 300, 3) := by decide +kernel
theorem dX9_isForesight_5 : decode cX9_isForesight 5 = .ok (.invokestatic 102, 3) := by decide +kernel
theorem dX9_isForesight_8 : decode cX9_isForesight 8 = .ok (.ifCond .eq 16, 3) := by decide +kernel
theorem dX9_isForesight_11 : decode cX9_isForesight 11 = .ok (.iload_n 1, 1) := by decide +kernel
theorem dX9_isForesight_12 : decode cX9_isForesight 12 = .ok (.iconst 0, 1) := by decide +kernel
theorem dX9_isForesight_13 : decode cX9_isForesight 13 = .ok (.iconst 5, 1) := by decide +kernel
theorem dX9_isForesight_14 : decode cX9_isForesight 14 = .ok (.invokestatic 102, 3) := by decide +kernel
theorem dX9_isForesight_17 : decode cX9_isForesight 17 = .ok (.ifCond .eq 7, 3) := by decide +kernel
theorem dX9_isForesight_20 : decode cX9_isForesight 20 = .ok (.iconst 1, 1) := by decide +kernel
theorem dX9_isForesight_21 : decode cX9_isForesight 21 = .ok (.goto 4, 3) := by decide +kernel
theorem dX9_isForesight_24 : decode cX9_isForesight 24 = .ok (.iconst 0, 1) := by decide +kernel
theorem dX9_isForesight_25 : decode cX9_isForesight 25 = .ok (.ireturn, 1) := by decide +kernel
theorem dX9_countTold_0 : decode cX9_countTold 0 = .ok (.iload_n 0, 1) := by decide +kernel
theorem dX9_countTold_1 : decode cX9_countTold 1 = .ok (.tableswitch 45 0 4 #[35, 37, 39, 45, 42], 35) := by decide +kernel
theorem dX9_countTold_36 : decode cX9_countTold 36 = .ok (.iconst 1, 1) := by decide +kernel
theorem dX9_countTold_37 : decode cX9_countTold 37 = .ok (.ireturn, 1) := by decide +kernel
theorem dX9_countTold_38 : decode cX9_countTold 38 = .ok (.iconst 2, 1) := by decide +kernel
theorem dX9_countTold_39 : decode cX9_countTold 39 = .ok (.ireturn, 1) := by decide +kernel
theorem dX9_countTold_40 : decode cX9_countTold 40 = .ok (.bipush 8, 2) := by decide +kernel
theorem dX9_countTold_42 : decode cX9_countTold 42 = .ok (.ireturn, 1) := by decide +kernel
theorem dX9_countTold_43 : decode cX9_countTold 43 = .ok (.bipush 7, 2) := by decide +kernel
theorem dX9_countTold_45 : decode cX9_countTold 45 = .ok (.ireturn, 1) := by decide +kernel
theorem dX9_countTold_46 : decode cX9_countTold 46 = .ok (.iconst 4, 1) := by decide +kernel
theorem dX9_countTold_47 : decode cX9_countTold 47 = .ok (.ireturn, 1) := by decide +kernel
theorem dX9_triedMinutes_0 : decode cX9_triedMinutes 0 = .ok (.iconst 0, 1) := by decide +kernel
theorem dX9_triedMinutes_1 : decode cX9_triedMinutes 1 = .ok (.istore_n 3, 1) := by decide +kernel
theorem dX9_triedMinutes_2 : decode cX9_triedMinutes 2 = .ok (.iload_n 3, 1) := by decide +kernel
theorem dX9_triedMinutes_3 : decode cX9_triedMinutes 3 = .ok (.iload_n 1, 1) := by decide +kernel
theorem dX9_triedMinutes_4 : decode cX9_triedMinutes 4 = .ok (.if_icmp .ge 16, 3) := by decide +kernel
theorem dX9_triedMinutes_7 : decode cX9_triedMinutes 7 = .ok (.aload_n 0, 1) := by decide +kernel
theorem dX9_triedMinutes_8 : decode cX9_triedMinutes 8 = .ok (.getfield 53, 3) := by decide +kernel
theorem dX9_triedMinutes_11 : decode cX9_triedMinutes 11 = .ok (.invokevirtual 183, 3) := by decide +kernel
theorem dX9_triedMinutes_14 : decode cX9_triedMinutes 14 = .ok (.iinc 3 1, 3) := by decide +kernel
theorem dX9_triedMinutes_17 : decode cX9_triedMinutes 17 = .ok (.goto (-15), 3) := by decide +kernel
theorem dX9_triedMinutes_20 : decode cX9_triedMinutes 20 = .ok (.iload_n 2, 1) := by decide +kernel
theorem dX9_triedMinutes_21 : decode cX9_triedMinutes 21 = .ok (.iconst 3, 1) := by decide +kernel
theorem dX9_triedMinutes_22 : decode cX9_triedMinutes 22 = .ok (.if_icmp .ne 14, 3) := by decide +kernel
theorem dX9_triedMinutes_25 : decode cX9_triedMinutes 25 = .ok (.aload_n 0, 1) := by decide +kernel
theorem dX9_triedMinutes_26 : decode cX9_triedMinutes 26 = .ok (.getfield 53, 3) := by decide +kernel
theorem dX9_triedMinutes_29 : decode cX9_triedMinutes 29 = .ok (.getfield 137, 3) := by decide +kernel
theorem dX9_triedMinutes_32 : decode cX9_triedMinutes 32 = .ok (.getfield 171, 3) := by decide +kernel
theorem dX9_triedMinutes_35 : decode cX9_triedMinutes 35 = .ok (.ireturn, 1) := by decide +kernel
theorem dX9_triedMinutes_36 : decode cX9_triedMinutes 36 = .ok (.iload_n 2, 1) := by decide +kernel
theorem dX9_triedMinutes_37 : decode cX9_triedMinutes 37 = .ok (.invokestatic 305, 3) := by decide +kernel
theorem dX9_triedMinutes_40 : decode cX9_triedMinutes 40 = .ok (.istore_n 3, 1) := by decide +kernel
theorem dX9_triedMinutes_41 : decode cX9_triedMinutes 41 = .ok (.aload_n 0, 1) := by decide +kernel
theorem dX9_triedMinutes_42 : decode cX9_triedMinutes 42 = .ok (.getfield 53, 3) := by decide +kernel
theorem dX9_triedMinutes_45 : decode cX9_triedMinutes 45 = .ok (.getfield 121, 3) := by decide +kernel
theorem dX9_triedMinutes_48 : decode cX9_triedMinutes 48 = .ok (.iload_n 3, 1) := by decide +kernel
theorem dX9_triedMinutes_49 : decode cX9_triedMinutes 49 = .ok (.invokestatic 110, 3) := by decide +kernel
theorem dX9_triedMinutes_52 : decode cX9_triedMinutes 52 = .ok (.aload_n 0, 1) := by decide +kernel
theorem dX9_triedMinutes_53 : decode cX9_triedMinutes 53 = .ok (.getfield 10, 3) := by decide +kernel
theorem dX9_triedMinutes_56 : decode cX9_triedMinutes 56 = .ok (.getfield 121, 3) := by decide +kernel
theorem dX9_triedMinutes_59 : decode cX9_triedMinutes 59 = .ok (.iload_n 3, 1) := by decide +kernel
theorem dX9_triedMinutes_60 : decode cX9_triedMinutes 60 = .ok (.invokestatic 110, 3) := by decide +kernel
theorem dX9_triedMinutes_63 : decode cX9_triedMinutes 63 = .ok (.isub, 1) := by decide +kernel
theorem dX9_triedMinutes_64 : decode cX9_triedMinutes 64 = .ok (.ireturn, 1) := by decide +kernel
theorem dX9_triedUntilDone_0 : decode cX9_triedUntilDone 0 = .ok (.iconst 0, 1) := by decide +kernel
theorem dX9_triedUntilDone_1 : decode cX9_triedUntilDone 1 = .ok (.istore_n 2, 1) := by decide +kernel
theorem dX9_triedUntilDone_2 : decode cX9_triedUntilDone 2 = .ok (.iload_n 2, 1) := by decide +kernel
theorem dX9_triedUntilDone_3 : decode cX9_triedUntilDone 3 = .ok (.iload_n 1, 1) := by decide +kernel
theorem dX9_triedUntilDone_4 : decode cX9_triedUntilDone 4 = .ok (.if_icmp .gt 31, 3) := by decide +kernel
theorem dX9_triedUntilDone_7 : decode cX9_triedUntilDone 7 = .ok (.aload_n 0, 1) := by decide +kernel
theorem dX9_triedUntilDone_8 : decode cX9_triedUntilDone 8 = .ok (.getfield 53, 3) := by decide +kernel
theorem dX9_triedUntilDone_11 : decode cX9_triedUntilDone 11 = .ok (.getfield 89, 3) := by decide +kernel
theorem dX9_triedUntilDone_14 : decode cX9_triedUntilDone 14 = .ok (.invokevirtual 224, 3) := by decide +kernel
theorem dX9_triedUntilDone_17 : decode cX9_triedUntilDone 17 = .ok (.ifCond .ne 5, 3) := by decide +kernel
theorem dX9_triedUntilDone_20 : decode cX9_triedUntilDone 20 = .ok (.iload_n 2, 1) := by decide +kernel
theorem dX9_triedUntilDone_21 : decode cX9_triedUntilDone 21 = .ok (.ireturn, 1) := by decide +kernel
theorem dX9_triedUntilDone_22 : decode cX9_triedUntilDone 22 = .ok (.aload_n 0, 1) := by decide +kernel
theorem dX9_triedUntilDone_23 : decode cX9_triedUntilDone 23 = .ok (.getfield 53, 3) := by decide +kernel
theorem dX9_triedUntilDone_26 : decode cX9_triedUntilDone 26 = .ok (.invokevirtual 183, 3) := by decide +kernel
theorem dX9_triedUntilDone_29 : decode cX9_triedUntilDone 29 = .ok (.iinc 2 1, 3) := by decide +kernel
theorem dX9_triedUntilDone_32 : decode cX9_triedUntilDone 32 = .ok (.goto (-30), 3) := by decide +kernel
theorem dX9_triedUntilDone_35 : decode cX9_triedUntilDone 35 = .ok (.bipush (-2), 2) := by decide +kernel
theorem dX9_triedUntilDone_37 : decode cX9_triedUntilDone 37 = .ok (.ireturn, 1) := by decide +kernel
theorem dX9_writeSetup_0 : decode cX9_writeSetup 0 = .ok (.aload_n 0, 1) := by decide +kernel
theorem dX9_writeSetup_1 : decode cX9_writeSetup 1 = .ok (.getfield 61, 3) := by decide +kernel
theorem dX9_writeSetup_4 : decode cX9_writeSetup 4 = .ok (.iconst 0, 1) := by decide +kernel
theorem dX9_writeSetup_5 : decode cX9_writeSetup 5 = .ok (.putfield 71, 3) := by decide +kernel
theorem dX9_writeSetup_8 : decode cX9_writeSetup 8 = .ok (.aload_n 0, 1) := by decide +kernel
theorem dX9_writeSetup_9 : decode cX9_writeSetup 9 = .ok (.getfield 61, 3) := by decide +kernel
theorem dX9_writeSetup_12 : decode cX9_writeSetup 12 = .ok (.ldc_w 315, 3) := by decide +kernel
theorem dX9_writeSetup_15 : decode cX9_writeSetup 15 = .ok (.invokevirtual 317, 3) := by decide +kernel
theorem dX9_writeSetup_18 : decode cX9_writeSetup 18 = .ok (.aload_n 0, 1) := by decide +kernel
theorem dX9_writeSetup_19 : decode cX9_writeSetup 19 = .ok (.getfield 61, 3) := by decide +kernel
theorem dX9_writeSetup_22 : decode cX9_writeSetup 22 = .ok (.aload_n 0, 1) := by decide +kernel
theorem dX9_writeSetup_23 : decode cX9_writeSetup 23 = .ok (.getfield 10, 3) := by decide +kernel
theorem dX9_writeSetup_26 : decode cX9_writeSetup 26 = .ok (.getfield 203, 3) := by decide +kernel
theorem dX9_writeSetup_29 : decode cX9_writeSetup 29 = .ok (.iconst 0, 1) := by decide +kernel
theorem dX9_writeSetup_30 : decode cX9_writeSetup 30 = .ok (.invokestatic 110, 3) := by decide +kernel
theorem dX9_writeSetup_33 : decode cX9_writeSetup 33 = .ok (.invokevirtual 311, 3) := by decide +kernel
theorem dX9_writeSetup_36 : decode cX9_writeSetup 36 = .ok (.aload_n 0, 1) := by decide +kernel
theorem dX9_writeSetup_37 : decode cX9_writeSetup 37 = .ok (.getfield 61, 3) := by decide +kernel
theorem dX9_writeSetup_40 : decode cX9_writeSetup 40 = .ok (.ldc_w 321, 3) := by decide +kernel
theorem dX9_writeSetup_43 : decode cX9_writeSetup 43 = .ok (.invokevirtual 317, 3) := by decide +kernel
theorem dX9_writeSetup_46 : decode cX9_writeSetup 46 = .ok (.aload_n 0, 1) := by decide +kernel
theorem dX9_writeSetup_47 : decode cX9_writeSetup 47 = .ok (.getfield 61, 3) := by decide +kernel
theorem dX9_writeSetup_50 : decode cX9_writeSetup 50 = .ok (.aload_n 0, 1) := by decide +kernel
theorem dX9_writeSetup_51 : decode cX9_writeSetup 51 = .ok (.getfield 10, 3) := by decide +kernel
theorem dX9_writeSetup_54 : decode cX9_writeSetup 54 = .ok (.getfield 203, 3) := by decide +kernel
theorem dX9_writeSetup_57 : decode cX9_writeSetup 57 = .ok (.iconst 1, 1) := by decide +kernel
theorem dX9_writeSetup_58 : decode cX9_writeSetup 58 = .ok (.invokestatic 110, 3) := by decide +kernel
theorem dX9_writeSetup_61 : decode cX9_writeSetup 61 = .ok (.invokevirtual 311, 3) := by decide +kernel
theorem dX9_writeSetup_64 : decode cX9_writeSetup 64 = .ok (.aload_n 0, 1) := by decide +kernel
theorem dX9_writeSetup_65 : decode cX9_writeSetup 65 = .ok (.getfield 61, 3) := by decide +kernel
theorem dX9_writeSetup_68 : decode cX9_writeSetup 68 = .ok (.ldc_w 323, 3) := by decide +kernel
theorem dX9_writeSetup_71 : decode cX9_writeSetup 71 = .ok (.invokevirtual 317, 3) := by decide +kernel
theorem dX9_writeSetup_74 : decode cX9_writeSetup 74 = .ok (.aload_n 0, 1) := by decide +kernel
theorem dX9_writeSetup_75 : decode cX9_writeSetup 75 = .ok (.getfield 61, 3) := by decide +kernel
theorem dX9_writeSetup_78 : decode cX9_writeSetup 78 = .ok (.aload_n 0, 1) := by decide +kernel
theorem dX9_writeSetup_79 : decode cX9_writeSetup 79 = .ok (.getfield 10, 3) := by decide +kernel
theorem dX9_writeSetup_82 : decode cX9_writeSetup 82 = .ok (.getfield 203, 3) := by decide +kernel
theorem dX9_writeSetup_85 : decode cX9_writeSetup 85 = .ok (.iconst 2, 1) := by decide +kernel
theorem dX9_writeSetup_86 : decode cX9_writeSetup 86 = .ok (.invokestatic 110, 3) := by decide +kernel
theorem dX9_writeSetup_89 : decode cX9_writeSetup 89 = .ok (.invokevirtual 311, 3) := by decide +kernel
theorem dX9_writeSetup_92 : decode cX9_writeSetup 92 = .ok (.aload_n 0, 1) := by decide +kernel
theorem dX9_writeSetup_93 : decode cX9_writeSetup 93 = .ok (.getfield 61, 3) := by decide +kernel
theorem dX9_writeSetup_96 : decode cX9_writeSetup 96 = .ok (.bipush 59, 2) := by decide +kernel
theorem dX9_writeSetup_98 : decode cX9_writeSetup 98 = .ok (.invokevirtual 314, 3) := by decide +kernel
theorem dX9_writeSetup_101 : decode cX9_writeSetup 101 = .ok (.iconst 0, 1) := by decide +kernel
theorem dX9_writeSetup_102 : decode cX9_writeSetup 102 = .ok (.istore_n 1, 1) := by decide +kernel
theorem dX9_writeSetup_103 : decode cX9_writeSetup 103 = .ok (.iload_n 1, 1) := by decide +kernel
theorem dX9_writeSetup_104 : decode cX9_writeSetup 104 = .ok (.aload_n 0, 1) := by decide +kernel
theorem dX9_writeSetup_105 : decode cX9_writeSetup 105 = .ok (.getfield 10, 3) := by decide +kernel
theorem dX9_writeSetup_108 : decode cX9_writeSetup 108 = .ok (.getfield 89, 3) := by decide +kernel
theorem dX9_writeSetup_111 : decode cX9_writeSetup 111 = .ok (.getfield 93, 3) := by decide +kernel
theorem dX9_writeSetup_114 : decode cX9_writeSetup 114 = .ok (.if_icmp .ge 14, 3) := by decide +kernel
theorem dX9_writeSetup_117 : decode cX9_writeSetup 117 = .ok (.aload_n 0, 1) := by decide +kernel
theorem dX9_writeSetup_118 : decode cX9_writeSetup 118 = .ok (.iload_n 1, 1) := by decide +kernel
theorem dX9_writeSetup_119 : decode cX9_writeSetup 119 = .ok (.invokevirtual 325, 3) := by decide +kernel
theorem dX9_writeSetup_122 : decode cX9_writeSetup 122 = .ok (.iinc 1 1, 3) := by decide +kernel
theorem dX9_writeSetup_125 : decode cX9_writeSetup 125 = .ok (.goto (-22), 3) := by decide +kernel
theorem dX9_writeSetup_128 : decode cX9_writeSetup 128 = .ok (.iconst 0, 1) := by decide +kernel
theorem dX9_writeSetup_129 : decode cX9_writeSetup 129 = .ok (.istore_n 1, 1) := by decide +kernel
theorem dX9_writeSetup_130 : decode cX9_writeSetup 130 = .ok (.iload_n 1, 1) := by decide +kernel
theorem dX9_writeSetup_131 : decode cX9_writeSetup 131 = .ok (.aload_n 0, 1) := by decide +kernel
theorem dX9_writeSetup_132 : decode cX9_writeSetup 132 = .ok (.getfield 10, 3) := by decide +kernel
theorem dX9_writeSetup_135 : decode cX9_writeSetup 135 = .ok (.getfield 89, 3) := by decide +kernel
theorem dX9_writeSetup_138 : decode cX9_writeSetup 138 = .ok (.getfield 93, 3) := by decide +kernel
theorem dX9_writeSetup_141 : decode cX9_writeSetup 141 = .ok (.if_icmp .ge 14, 3) := by decide +kernel
theorem dX9_writeSetup_144 : decode cX9_writeSetup 144 = .ok (.aload_n 0, 1) := by decide +kernel
theorem dX9_writeSetup_145 : decode cX9_writeSetup 145 = .ok (.iload_n 1, 1) := by decide +kernel
theorem dX9_writeSetup_146 : decode cX9_writeSetup 146 = .ok (.invokevirtual 328, 3) := by decide +kernel
theorem dX9_writeSetup_149 : decode cX9_writeSetup 149 = .ok (.iinc 1 1, 3) := by decide +kernel
theorem dX9_writeSetup_152 : decode cX9_writeSetup 152 = .ok (.goto (-22), 3) := by decide +kernel
theorem dX9_writeSetup_155 : decode cX9_writeSetup 155 = .ok (.aload_n 0, 1) := by decide +kernel
theorem dX9_writeSetup_156 : decode cX9_writeSetup 156 = .ok (.getfield 10, 3) := by decide +kernel
theorem dX9_writeSetup_159 : decode cX9_writeSetup 159 = .ok (.getfield 137, 3) := by decide +kernel
theorem dX9_writeSetup_162 : decode cX9_writeSetup 162 = .ok (.invokevirtual 331, 3) := by decide +kernel
theorem dX9_writeSetup_165 : decode cX9_writeSetup 165 = .ok (.istore_n 1, 1) := by decide +kernel
theorem dX9_writeSetup_166 : decode cX9_writeSetup 166 = .ok (.iload_n 1, 1) := by decide +kernel
theorem dX9_writeSetup_167 : decode cX9_writeSetup 167 = .ok (.bipush (-2), 2) := by decide +kernel
theorem dX9_writeSetup_169 : decode cX9_writeSetup 169 = .ok (.if_icmp .eq 43, 3) := by decide +kernel
theorem dX9_writeSetup_172 : decode cX9_writeSetup 172 = .ok (.aload_n 0, 1) := by decide +kernel
theorem dX9_writeSetup_173 : decode cX9_writeSetup 173 = .ok (.getfield 61, 3) := by decide +kernel
theorem dX9_writeSetup_176 : decode cX9_writeSetup 176 = .ok (.ldc_w 334, 3) := by decide +kernel
theorem dX9_writeSetup_179 : decode cX9_writeSetup 179 = .ok (.invokevirtual 317, 3) := by decide +kernel
theorem dX9_writeSetup_182 : decode cX9_writeSetup 182 = .ok (.aload_n 0, 1) := by decide +kernel
theorem dX9_writeSetup_183 : decode cX9_writeSetup 183 = .ok (.getfield 61, 3) := by decide +kernel
theorem dX9_writeSetup_186 : decode cX9_writeSetup 186 = .ok (.aload_n 0, 1) := by decide +kernel
theorem dX9_writeSetup_187 : decode cX9_writeSetup 187 = .ok (.getfield 10, 3) := by decide +kernel
theorem dX9_writeSetup_190 : decode cX9_writeSetup 190 = .ok (.getfield 137, 3) := by decide +kernel
theorem dX9_writeSetup_193 : decode cX9_writeSetup 193 = .ok (.getfield 249, 3) := by decide +kernel
theorem dX9_writeSetup_196 : decode cX9_writeSetup 196 = .ok (.iload_n 1, 1) := by decide +kernel
theorem dX9_writeSetup_197 : decode cX9_writeSetup 197 = .ok (.invokestatic 110, 3) := by decide +kernel
theorem dX9_writeSetup_200 : decode cX9_writeSetup 200 = .ok (.invokevirtual 311, 3) := by decide +kernel
theorem dX9_writeSetup_203 : decode cX9_writeSetup 203 = .ok (.aload_n 0, 1) := by decide +kernel
theorem dX9_writeSetup_204 : decode cX9_writeSetup 204 = .ok (.getfield 61, 3) := by decide +kernel
theorem dX9_writeSetup_207 : decode cX9_writeSetup 207 = .ok (.bipush 59, 2) := by decide +kernel
theorem dX9_writeSetup_209 : decode cX9_writeSetup 209 = .ok (.invokevirtual 314, 3) := by decide +kernel
theorem dX9_writeSetup_212 : decode cX9_writeSetup 212 = .ok (.return_, 1) := by decide +kernel
theorem dX9_writeSetupOffice_0 : decode cX9_writeSetupOffice 0 = .ok (.aload_n 0, 1) := by decide +kernel
theorem dX9_writeSetupOffice_1 : decode cX9_writeSetupOffice 1 = .ok (.getfield 61, 3) := by decide +kernel
theorem dX9_writeSetupOffice_4 : decode cX9_writeSetupOffice 4 = .ok (.ldc_w 336, 3) := by decide +kernel
theorem dX9_writeSetupOffice_7 : decode cX9_writeSetupOffice 7 = .ok (.invokevirtual 317, 3) := by decide +kernel
theorem dX9_writeSetupOffice_10 : decode cX9_writeSetupOffice 10 = .ok (.aload_n 0, 1) := by decide +kernel
theorem dX9_writeSetupOffice_11 : decode cX9_writeSetupOffice 11 = .ok (.getfield 61, 3) := by decide +kernel
theorem dX9_writeSetupOffice_14 : decode cX9_writeSetupOffice 14 = .ok (.aload_n 0, 1) := by decide +kernel
theorem dX9_writeSetupOffice_15 : decode cX9_writeSetupOffice 15 = .ok (.getfield 10, 3) := by decide +kernel
theorem dX9_writeSetupOffice_18 : decode cX9_writeSetupOffice 18 = .ok (.getfield 89, 3) := by decide +kernel
theorem dX9_writeSetupOffice_21 : decode cX9_writeSetupOffice 21 = .ok (.getfield 186, 3) := by decide +kernel
theorem dX9_writeSetupOffice_24 : decode cX9_writeSetupOffice 24 = .ok (.iload_n 1, 1) := by decide +kernel
theorem dX9_writeSetupOffice_25 : decode cX9_writeSetupOffice 25 = .ok (.invokestatic 110, 3) := by decide +kernel
theorem dX9_writeSetupOffice_28 : decode cX9_writeSetupOffice 28 = .ok (.invokevirtual 311, 3) := by decide +kernel
theorem dX9_writeSetupOffice_31 : decode cX9_writeSetupOffice 31 = .ok (.aload_n 0, 1) := by decide +kernel
theorem dX9_writeSetupOffice_32 : decode cX9_writeSetupOffice 32 = .ok (.getfield 61, 3) := by decide +kernel
theorem dX9_writeSetupOffice_35 : decode cX9_writeSetupOffice 35 = .ok (.bipush 32, 2) := by decide +kernel
theorem dX9_writeSetupOffice_37 : decode cX9_writeSetupOffice 37 = .ok (.invokevirtual 314, 3) := by decide +kernel
theorem dX9_writeSetupOffice_40 : decode cX9_writeSetupOffice 40 = .ok (.aload_n 0, 1) := by decide +kernel
theorem dX9_writeSetupOffice_41 : decode cX9_writeSetupOffice 41 = .ok (.getfield 61, 3) := by decide +kernel
theorem dX9_writeSetupOffice_44 : decode cX9_writeSetupOffice 44 = .ok (.aload_n 0, 1) := by decide +kernel
theorem dX9_writeSetupOffice_45 : decode cX9_writeSetupOffice 45 = .ok (.getfield 10, 3) := by decide +kernel
theorem dX9_writeSetupOffice_48 : decode cX9_writeSetupOffice 48 = .ok (.getfield 89, 3) := by decide +kernel
theorem dX9_writeSetupOffice_51 : decode cX9_writeSetupOffice 51 = .ok (.getfield 189, 3) := by decide +kernel
theorem dX9_writeSetupOffice_54 : decode cX9_writeSetupOffice 54 = .ok (.iload_n 1, 1) := by decide +kernel
theorem dX9_writeSetupOffice_55 : decode cX9_writeSetupOffice 55 = .ok (.invokestatic 110, 3) := by decide +kernel
theorem dX9_writeSetupOffice_58 : decode cX9_writeSetupOffice 58 = .ok (.invokevirtual 311, 3) := by decide +kernel
theorem dX9_writeSetupOffice_61 : decode cX9_writeSetupOffice 61 = .ok (.aload_n 0, 1) := by decide +kernel
theorem dX9_writeSetupOffice_62 : decode cX9_writeSetupOffice 62 = .ok (.getfield 10, 3) := by decide +kernel
theorem dX9_writeSetupOffice_65 : decode cX9_writeSetupOffice 65 = .ok (.getfield 89, 3) := by decide +kernel
theorem dX9_writeSetupOffice_68 : decode cX9_writeSetupOffice 68 = .ok (.iload_n 1, 1) := by decide +kernel
theorem dX9_writeSetupOffice_69 : decode cX9_writeSetupOffice 69 = .ok (.invokevirtual 168, 3) := by decide +kernel
theorem dX9_writeSetupOffice_72 : decode cX9_writeSetupOffice 72 = .ok (.ifCond .ne 13, 3) := by decide +kernel
theorem dX9_writeSetupOffice_75 : decode cX9_writeSetupOffice 75 = .ok (.aload_n 0, 1) := by decide +kernel
theorem dX9_writeSetupOffice_76 : decode cX9_writeSetupOffice 76 = .ok (.getfield 61, 3) := by decide +kernel
theorem dX9_writeSetupOffice_79 : decode cX9_writeSetupOffice 79 = .ok (.ldc_w 338, 3) := by decide +kernel
theorem dX9_writeSetupOffice_82 : decode cX9_writeSetupOffice 82 = .ok (.invokevirtual 317, 3) := by decide +kernel
theorem dX9_writeSetupOffice_85 : decode cX9_writeSetupOffice 85 = .ok (.aload_n 0, 1) := by decide +kernel
theorem dX9_writeSetupOffice_86 : decode cX9_writeSetupOffice 86 = .ok (.getfield 61, 3) := by decide +kernel
theorem dX9_writeSetupOffice_89 : decode cX9_writeSetupOffice 89 = .ok (.bipush 59, 2) := by decide +kernel
theorem dX9_writeSetupOffice_91 : decode cX9_writeSetupOffice 91 = .ok (.invokevirtual 314, 3) := by decide +kernel
theorem dX9_writeSetupOffice_94 : decode cX9_writeSetupOffice 94 = .ok (.return_, 1) := by decide +kernel
theorem dX9_writeSetupLetters_0 : decode cX9_writeSetupLetters 0 = .ok (.iconst 0, 1) := by decide +kernel
