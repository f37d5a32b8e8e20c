theorem dX10_isToken_6 : decode cX10_isToken 6 = .ok (.iconst 5, 1) := by decide +kernel
theorem dX10_isToken_7 : decode cX10_isToken 7 = .ok (.iaload, 1) := by decide +kernel
theorem dX10_isToken_8 : decode cX10_isToken 8 = .ok (.iconst 1, 1) := by decide +kernel
theorem dX10_isToken_9 : decode cX10_isToken 9 = .ok (.isub, 1) := by decide +kernel
theorem dX10_isToken_10 : decode cX10_isToken 10 = .ok (.invokestatic 58, 3) := by decide +kernel
theorem dX10_isToken_13 : decode cX10_isToken 13 = .ok (.ireturn, 1) := by decide +kernel
theorem dX10_isAhead_0 : decode cX10_isAhead 0 = .ok (.iload_n 0, 1) := by decide +kernel
theorem dX10_isAhead_1 : decode cX10_isAhead 1 = .ok (.iconst 0, 1) := by decide +kernel
theorem dX10_isAhead_2 : decode cX10_isAhead 2 = .ok (.sipush 300, 3) := by decide +kernel
theorem dX10_isAhead_5 : decode cX10_isAhead 5 = .ok (.invokestatic 58, 3) := by decide +kernel
theorem dX10_isAhead_8 : decode cX10_isAhead 8 = .ok (.ireturn, 1) := by decide +kernel
theorem dX10_addOffice_0 : decode cX10_addOffice 0 = .ok (.aload_n 0, 1) := by decide +kernel
theorem dX10_addOffice_1 : decode cX10_addOffice 1 = .ok (.iconst 4, 1) := by decide +kernel
theorem dX10_addOffice_2 : decode cX10_addOffice 2 = .ok (.iaload, 1) := by decide +kernel
theorem dX10_addOffice_3 : decode cX10_addOffice 3 = .ok (.istore 4, 2) := by decide +kernel
theorem dX10_addOffice_5 : decode cX10_addOffice 5 = .ok (.iconst 0, 1) := by decide +kernel
theorem dX10_addOffice_6 : decode cX10_addOffice 6 = .ok (.istore 5, 2) := by decide +kernel
theorem dX10_addOffice_8 : decode cX10_addOffice 8 = .ok (.iload 5, 2) := by decide +kernel
theorem dX10_addOffice_10 : decode cX10_addOffice 10 = .ok (.bipush 18, 2) := by decide +kernel
theorem dX10_addOffice_12 : decode cX10_addOffice 12 = .ok (.if_icmp .ge 19, 3) := by decide +kernel
theorem dX10_addOffice_15 : decode cX10_addOffice 15 = .ok (.aload_n 0, 1) := by decide +kernel
theorem dX10_addOffice_16 : decode cX10_addOffice 16 = .ok (.iload 4, 2) := by decide +kernel
theorem dX10_addOffice_18 : decode cX10_addOffice 18 = .ok (.iload 5, 2) := by decide +kernel
theorem dX10_addOffice_20 : decode cX10_addOffice 20 = .ok (.invokestatic 54, 3) := by decide +kernel
theorem dX10_addOffice_23 : decode cX10_addOffice 23 = .ok (.iconst 0, 1) := by decide +kernel
theorem dX10_addOffice_24 : decode cX10_addOffice 24 = .ok (.iastore, 1) := by decide +kernel
theorem dX10_addOffice_25 : decode cX10_addOffice 25 = .ok (.iinc 5 1, 3) := by decide +kernel
theorem dX10_addOffice_28 : decode cX10_addOffice 28 = .ok (.goto (-20), 3) := by decide +kernel
theorem dX10_addOffice_31 : decode cX10_addOffice 31 = .ok (.aload_n 0, 1) := by decide +kernel
theorem dX10_addOffice_32 : decode cX10_addOffice 32 = .ok (.iload 4, 2) := by decide +kernel
theorem dX10_addOffice_34 : decode cX10_addOffice 34 = .ok (.iconst 0, 1) := by decide +kernel
theorem dX10_addOffice_35 : decode cX10_addOffice 35 = .ok (.invokestatic 54, 3) := by decide +kernel
theorem dX10_addOffice_38 : decode cX10_addOffice 38 = .ok (.iload_n 1, 1) := by decide +kernel
theorem dX10_addOffice_39 : decode cX10_addOffice 39 = .ok (.iastore, 1) := by decide +kernel
theorem dX10_addOffice_40 : decode cX10_addOffice 40 = .ok (.aload_n 0, 1) := by decide +kernel
theorem dX10_addOffice_41 : decode cX10_addOffice 41 = .ok (.iload 4, 2) := by decide +kernel
theorem dX10_addOffice_43 : decode cX10_addOffice 43 = .ok (.iconst 1, 1) := by decide +kernel
theorem dX10_addOffice_44 : decode cX10_addOffice 44 = .ok (.invokestatic 54, 3) := by decide +kernel
theorem dX10_addOffice_47 : decode cX10_addOffice 47 = .ok (.iload_n 2, 1) := by decide +kernel
theorem dX10_addOffice_48 : decode cX10_addOffice 48 = .ok (.iastore, 1) := by decide +kernel
theorem dX10_addOffice_49 : decode cX10_addOffice 49 = .ok (.aload_n 0, 1) := by decide +kernel
theorem dX10_addOffice_50 : decode cX10_addOffice 50 = .ok (.iload 4, 2) := by decide +kernel
theorem dX10_addOffice_52 : decode cX10_addOffice 52 = .ok (.iconst 2, 1) := by decide +kernel
theorem dX10_addOffice_53 : decode cX10_addOffice 53 = .ok (.invokestatic 54, 3) := by decide +kernel
theorem dX10_addOffice_56 : decode cX10_addOffice 56 = .ok (.iload_n 3, 1) := by decide +kernel
theorem dX10_addOffice_57 : decode cX10_addOffice 57 = .ok (.iastore, 1) := by decide +kernel
theorem dX10_addOffice_58 : decode cX10_addOffice 58 = .ok (.aload_n 0, 1) := by decide +kernel
theorem dX10_addOffice_59 : decode cX10_addOffice 59 = .ok (.iconst 4, 1) := by decide +kernel
theorem dX10_addOffice_60 : decode cX10_addOffice 60 = .ok (.dup2, 1) := by decide +kernel
theorem dX10_addOffice_61 : decode cX10_addOffice 61 = .ok (.iaload, 1) := by decide +kernel
theorem dX10_addOffice_62 : decode cX10_addOffice 62 = .ok (.iconst 1, 1) := by decide +kernel
theorem dX10_addOffice_63 : decode cX10_addOffice 63 = .ok (.iadd, 1) := by decide +kernel
theorem dX10_addOffice_64 : decode cX10_addOffice 64 = .ok (.iastore, 1) := by decide +kernel
theorem dX10_addOffice_65 : decode cX10_addOffice 65 = .ok (.return_, 1) := by decide +kernel
theorem dX10_addLetter_0 : decode cX10_addLetter 0 = .ok (.aload_n 0, 1) := by decide +kernel
theorem dX10_addLetter_1 : decode cX10_addLetter 1 = .ok (.iload_n 1, 1) := by decide +kernel
theorem dX10_addLetter_2 : decode cX10_addLetter 2 = .ok (.iconst 4, 1) := by decide +kernel
theorem dX10_addLetter_3 : decode cX10_addLetter 3 = .ok (.invokestatic 54, 3) := by decide +kernel
theorem dX10_addLetter_6 : decode cX10_addLetter 6 = .ok (.iaload, 1) := by decide +kernel
theorem dX10_addLetter_7 : decode cX10_addLetter 7 = .ok (.istore 4, 2) := by decide +kernel
theorem dX10_addLetter_9 : decode cX10_addLetter 9 = .ok (.aload_n 0, 1) := by decide +kernel
theorem dX10_addLetter_10 : decode cX10_addLetter 10 = .ok (.iload_n 1, 1) := by decide +kernel
theorem dX10_addLetter_11 : decode cX10_addLetter 11 = .ok (.iload 4, 2) := by decide +kernel
theorem dX10_addLetter_13 : decode cX10_addLetter 13 = .ok (.iconst 0, 1) := by decide +kernel
theorem dX10_addLetter_14 : decode cX10_addLetter 14 = .ok (.invokestatic 62, 3) := by decide +kernel
theorem dX10_addLetter_17 : decode cX10_addLetter 17 = .ok (.iload_n 2, 1) := by decide +kernel
theorem dX10_addLetter_18 : decode cX10_addLetter 18 = .ok (.iastore, 1) := by decide +kernel
theorem dX10_addLetter_19 : decode cX10_addLetter 19 = .ok (.aload_n 0, 1) := by decide +kernel
theorem dX10_addLetter_20 : decode cX10_addLetter 20 = .ok (.iload_n 1, 1) := by decide +kernel
theorem dX10_addLetter_21 : decode cX10_addLetter 21 = .ok (.iload 4, 2) := by decide +kernel
theorem dX10_addLetter_23 : decode cX10_addLetter 23 = .ok (.iconst 1, 1) := by decide +kernel
theorem dX10_addLetter_24 : decode cX10_addLetter 24 = .ok (.invokestatic 62, 3) := by decide +kernel
theorem dX10_addLetter_27 : decode cX10_addLetter 27 = .ok (.iload_n 3, 1) := by decide +kernel
theorem dX10_addLetter_28 : decode cX10_addLetter 28 = .ok (.iastore, 1) := by decide +kernel
theorem dX10_addLetter_29 : decode cX10_addLetter 29 = .ok (.aload_n 0, 1) := by decide +kernel
theorem dX10_addLetter_30 : decode cX10_addLetter 30 = .ok (.iload_n 1, 1) := by decide +kernel
theorem dX10_addLetter_31 : decode cX10_addLetter 31 = .ok (.iconst 4, 1) := by decide +kernel
theorem dX10_addLetter_32 : decode cX10_addLetter 32 = .ok (.invokestatic 54, 3) := by decide +kernel
theorem dX10_addLetter_35 : decode cX10_addLetter 35 = .ok (.dup2, 1) := by decide +kernel
theorem dX10_addLetter_36 : decode cX10_addLetter 36 = .ok (.iaload, 1) := by decide +kernel
theorem dX10_addLetter_37 : decode cX10_addLetter 37 = .ok (.iconst 1, 1) := by decide +kernel
theorem dX10_addLetter_38 : decode cX10_addLetter 38 = .ok (.iadd, 1) := by decide +kernel
theorem dX10_addLetter_39 : decode cX10_addLetter 39 = .ok (.iastore, 1) := by decide +kernel
theorem dX10_addLetter_40 : decode cX10_addLetter 40 = .ok (.aload_n 0, 1) := by decide +kernel
theorem dX10_addLetter_41 : decode cX10_addLetter 41 = .ok (.bipush 8, 2) := by decide +kernel
theorem dX10_addLetter_43 : decode cX10_addLetter 43 = .ok (.dup2, 1) := by decide +kernel
theorem dX10_addLetter_44 : decode cX10_addLetter 44 = .ok (.iaload, 1) := by decide +kernel
theorem dX10_addLetter_45 : decode cX10_addLetter 45 = .ok (.iconst 1, 1) := by decide +kernel
theorem dX10_addLetter_46 : decode cX10_addLetter 46 = .ok (.iadd, 1) := by decide +kernel
theorem dX10_addLetter_47 : decode cX10_addLetter 47 = .ok (.iastore, 1) := by decide +kernel
theorem dX10_addLetter_48 : decode cX10_addLetter 48 = .ok (.return_, 1) := by decide +kernel
theorem dX10_dropLetter_0 : decode cX10_dropLetter 0 = .ok (.aload_n 0, 1) := by decide +kernel
theorem dX10_dropLetter_1 : decode cX10_dropLetter 1 = .ok (.iload_n 1, 1) := by decide +kernel
theorem dX10_dropLetter_2 : decode cX10_dropLetter 2 = .ok (.iconst 4, 1) := by decide +kernel
theorem dX10_dropLetter_3 : decode cX10_dropLetter 3 = .ok (.invokestatic 54, 3) := by decide +kernel
theorem dX10_dropLetter_6 : decode cX10_dropLetter 6 = .ok (.dup2, 1) := by decide +kernel
theorem dX10_dropLetter_7 : decode cX10_dropLetter 7 = .ok (.iaload, 1) := by decide +kernel
theorem dX10_dropLetter_8 : decode cX10_dropLetter 8 = .ok (.iconst 1, 1) := by decide +kernel
theorem dX10_dropLetter_9 : decode cX10_dropLetter 9 = .ok (.isub, 1) := by decide +kernel
theorem dX10_dropLetter_10 : decode cX10_dropLetter 10 = .ok (.iastore, 1) := by decide +kernel
theorem dX10_dropLetter_11 : decode cX10_dropLetter 11 = .ok (.iload_n 1, 1) := by decide +kernel
theorem dX10_dropLetter_12 : decode cX10_dropLetter 12 = .ok (.iload_n 2, 1) := by decide +kernel
theorem dX10_dropLetter_13 : decode cX10_dropLetter 13 = .ok (.iconst 0, 1) := by decide +kernel
theorem dX10_dropLetter_14 : decode cX10_dropLetter 14 = .ok (.invokestatic 62, 3) := by decide +kernel
theorem dX10_dropLetter_17 : decode cX10_dropLetter 17 = .ok (.istore_n 3, 1) := by decide +kernel
theorem dX10_dropLetter_18 : decode cX10_dropLetter 18 = .ok (.iload_n 3, 1) := by decide +kernel
theorem dX10_dropLetter_19 : decode cX10_dropLetter 19 = .ok (.iload_n 1, 1) := by decide +kernel
theorem dX10_dropLetter_20 : decode cX10_dropLetter 20 = .ok (.aload_n 0, 1) := by decide +kernel
theorem dX10_dropLetter_21 : decode cX10_dropLetter 21 = .ok (.iload_n 1, 1) := by decide +kernel
theorem dX10_dropLetter_22 : decode cX10_dropLetter 22 = .ok (.iconst 4, 1) := by decide +kernel
theorem dX10_dropLetter_23 : decode cX10_dropLetter 23 = .ok (.invokestatic 54, 3) := by decide +kernel
theorem dX10_dropLetter_26 : decode cX10_dropLetter 26 = .ok (.iaload, 1) := by decide +kernel
theorem dX10_dropLetter_27 : decode cX10_dropLetter 27 = .ok (.iconst 0, 1) := by decide +kernel
theorem dX10_dropLetter_28 : decode cX10_dropLetter 28 = .ok (.invokestatic 62, 3) := by decide +kernel
theorem dX10_dropLetter_31 : decode cX10_dropLetter 31 = .ok (.if_icmp .ge 17, 3) := by decide +kernel
theorem dX10_dropLetter_34 : decode cX10_dropLetter 34 = .ok (.aload_n 0, 1) := by decide +kernel
theorem dX10_dropLetter_35 : decode cX10_dropLetter 35 = .ok (.iload_n 3, 1) := by decide +kernel
theorem dX10_dropLetter_36 : decode cX10_dropLetter 36 = .ok (.aload_n 0, 1) := by decide +kernel
theorem dX10_dropLetter_37 : decode cX10_dropLetter 37 = .ok (.iload_n 3, 1) := by decide +kernel
theorem dX10_dropLetter_38 : decode cX10_dropLetter 38 = .ok (.iconst 2, 1) := by decide +kernel
theorem dX10_dropLetter_39 : decode cX10_dropLetter 39 = .ok (.iadd, 1) := by decide +kernel
theorem dX10_dropLetter_40 : decode cX10_dropLetter 40 = .ok (.iaload, 1) := by decide +kernel
theorem dX10_dropLetter_41 : decode cX10_dropLetter 41 = .ok (.iastore, 1) := by decide +kernel
theorem dX10_dropLetter_42 : decode cX10_dropLetter 42 = .ok (.iinc 3 1, 3) := by decide +kernel
theorem dX10_dropLetter_45 : decode cX10_dropLetter 45 = .ok (.goto (-27), 3) := by decide +kernel
theorem dX10_dropLetter_48 : decode cX10_dropLetter 48 = .ok (.return_, 1) := by decide +kernel
theorem dX10_addToken_0 : decode cX10_addToken 0 = .ok (.aload_n 0, 1) := by decide +kernel
theorem dX10_addToken_1 : decode cX10_addToken 1 = .ok (.iconst 5, 1) := by decide +kernel
theorem dX10_addToken_2 : decode cX10_addToken 2 = .ok (.iaload, 1) := by decide +kernel
theorem dX10_addToken_3 : decode cX10_addToken 3 = .ok (.istore_n 2, 1) := by decide +kernel
theorem dX10_addToken_4 : decode cX10_addToken 4 = .ok (.aload_n 0, 1) := by decide +kernel
theorem dX10_addToken_5 : decode cX10_addToken 5 = .ok (.bipush 7, 2) := by decide +kernel
theorem dX10_addToken_7 : decode cX10_addToken 7 = .ok (.dup2, 1) := by decide +kernel
theorem dX10_addToken_8 : decode cX10_addToken 8 = .ok (.iaload, 1) := by decide +kernel
theorem dX10_addToken_9 : decode cX10_addToken 9 = .ok (.iconst 1, 1) := by decide +kernel
theorem dX10_addToken_10 : decode cX10_addToken 10 = .ok (.iadd, 1) := by decide +kernel
theorem dX10_addToken_11 : decode cX10_addToken 11 = .ok (.iastore, 1) := by decide +kernel
theorem dX10_addToken_12 : decode cX10_addToken 12 = .ok (.aload_n 0, 1) := by decide +kernel
theorem dX10_addToken_13 : decode cX10_addToken 13 = .ok (.iload_n 2, 1) := by decide +kernel
theorem dX10_addToken_14 : decode cX10_addToken 14 = .ok (.iconst 0, 1) := by decide +kernel
theorem dX10_addToken_15 : decode cX10_addToken 15 = .ok (.invokestatic 66, 3) := by decide +kernel
theorem dX10_addToken_18 : decode cX10_addToken 18 = .ok (.aload_n 0, 1) := by decide +kernel
theorem dX10_addToken_19 : decode cX10_addToken 19 = .ok (.bipush 7, 2) := by decide +kernel
theorem dX10_addToken_21 : decode cX10_addToken 21 = .ok (.iaload, 1) := by decide +kernel
theorem dX10_addToken_22 : decode cX10_addToken 22 = .ok (.iastore, 1) := by decide +kernel
theorem dX10_addToken_23 : decode cX10_addToken 23 = .ok (.aload_n 0, 1) := by decide +kernel
theorem dX10_addToken_24 : decode cX10_addToken 24 = .ok (.iload_n 2, 1) := by decide +kernel
theorem dX10_addToken_25 : decode cX10_addToken 25 = .ok (.iconst 1, 1) := by decide +kernel
theorem dX10_addToken_26 : decode cX10_addToken 26 = .ok (.invokestatic 66, 3) := by decide +kernel
theorem dX10_addToken_29 : decode cX10_addToken 29 = .ok (.iload_n 1, 1) := by decide +kernel
theorem dX10_addToken_30 : decode cX10_addToken 30 = .ok (.iastore, 1) := by decide +kernel
theorem dX10_addToken_31 : decode cX10_addToken 31 = .ok (.aload_n 0, 1) := by decide +kernel
theorem dX10_addToken_32 : decode cX10_addToken 32 = .ok (.iload_n 2, 1) := by decide +kernel
theorem dX10_addToken_33 : decode cX10_addToken 33 = .ok (.iconst 2, 1) := by decide +kernel
theorem dX10_addToken_34 : decode cX10_addToken 34 = .ok (.invokestatic 66, 3) := by decide +kernel
theorem dX10_addToken_37 : decode cX10_addToken 37 = .ok (.iconst 0, 1) := by decide +kernel
theorem dX10_addToken_38 : decode cX10_addToken 38 = .ok (.iastore, 1) := by decide +kernel
theorem dX10_addToken_39 : decode cX10_addToken 39 = .ok (.aload_n 0, 1) := by decide +kernel
theorem dX10_addToken_40 : decode cX10_addToken 40 = .ok (.iload_n 2, 1) := by decide +kernel
theorem dX10_addToken_41 : decode cX10_addToken 41 = .ok (.iconst 3, 1) := by decide +kernel
theorem dX10_addToken_42 : decode cX10_addToken 42 = .ok (.invokestatic 66, 3) := by decide +kernel
theorem dX10_addToken_45 : decode cX10_addToken 45 = .ok (.iconst 0, 1) := by decide +kernel
theorem dX10_addToken_46 : decode cX10_addToken 46 = .ok (.iastore, 1) := by decide +kernel
theorem dX10_addToken_47 : decode cX10_addToken 47 = .ok (.aload_n 0, 1) := by decide +kernel
theorem dX10_addToken_48 : decode cX10_addToken 48 = .ok (.iload_n 2, 1) := by decide +kernel
theorem dX10_addToken_49 : decode cX10_addToken 49 = .ok (.iconst 4, 1) := by decide +kernel
theorem dX10_addToken_50 : decode cX10_addToken 50 = .ok (.invokestatic 66, 3) := by decide +kernel
theorem dX10_addToken_53 : decode cX10_addToken 53 = .ok (.iconst 0, 1) := by decide +kernel
theorem dX10_addToken_54 : decode cX10_addToken 54 = .ok (.iastore, 1) := by decide +kernel
theorem dX10_addToken_55 : decode cX10_addToken 55 = .ok (.aload_n 0, 1) := by decide +kernel
theorem dX10_addToken_56 : decode cX10_addToken 56 = .ok (.iload_n 2, 1) := by decide +kernel
theorem dX10_addToken_57 : decode cX10_addToken 57 = .ok (.iconst 5, 1) := by decide +kernel
theorem dX10_addToken_58 : decode cX10_addToken 58 = .ok (.invokestatic 66, 3) := by decide +kernel
theorem dX10_addToken_61 : decode cX10_addToken 61 = .ok (.iconst 1, 1) := by decide +kernel
theorem dX10_addToken_62 : decode cX10_addToken 62 = .ok (.iastore, 1) := by decide +kernel
theorem dX10_addToken_63 : decode cX10_addToken 63 = .ok (.aload_n 0, 1) := by decide +kernel
theorem dX10_addToken_64 : decode cX10_addToken 64 = .ok (.iconst 5, 1) := by decide +kernel
theorem dX10_addToken_65 : decode cX10_addToken 65 = .ok (.dup2, 1) := by decide +kernel
theorem dX10_addToken_66 : decode cX10_addToken 66 = .ok (.iaload, 1) := by decide +kernel
theorem dX10_addToken_67 : decode cX10_addToken 67 = .ok (.iconst 1, 1) := by decide +kernel
theorem dX10_addToken_68 : decode cX10_addToken 68 = .ok (.iadd, 1) := by decide +kernel
theorem dX10_addToken_69 : decode cX10_addToken 69 = .ok (.iastore, 1) := by decide +kernel
theorem dX10_addToken_70 : decode cX10_addToken 70 = .ok (.aload_n 0, 1) := by decide +kernel
theorem dX10_addToken_71 : decode cX10_addToken 71 = .ok (.bipush 7, 2) := by decide +kernel
theorem dX10_addToken_73 : decode cX10_addToken 73 = .ok (.iaload, 1) := by decide +kernel
theorem dX10_addToken_74 : decode cX10_addToken 74 = .ok (.ireturn, 1) := by decide +kernel
theorem dX10_dropToken_0 : decode cX10_dropToken 0 = .ok (.aload_n 0, 1) := by decide +kernel
theorem dX10_dropToken_1 : decode cX10_dropToken 1 = .ok (.iconst 5, 1) := by decide +kernel
theorem dX10_dropToken_2 : decode cX10_dropToken 2 = .ok (.dup2, 1) := by decide +kernel
theorem dX10_dropToken_3 : decode cX10_dropToken 3 = .ok (.iaload, 1) := by decide +kernel
theorem dX10_dropToken_4 : decode cX10_dropToken 4 = .ok (.iconst 1, 1) := by decide +kernel
theorem dX10_dropToken_5 : decode cX10_dropToken 5 = .ok (.isub, 1) := by decide +kernel
theorem dX10_dropToken_6 : decode cX10_dropToken 6 = .ok (.iastore, 1) := by decide +kernel
theorem dX10_dropToken_7 : decode cX10_dropToken 7 = .ok (.iload_n 1, 1) := by decide +kernel
theorem dX10_dropToken_8 : decode cX10_dropToken 8 = .ok (.iconst 0, 1) := by decide +kernel
theorem dX10_dropToken_9 : decode cX10_dropToken 9 = .ok (.invokestatic 66, 3) := by decide +kernel
theorem dX10_dropToken_12 : decode cX10_dropToken 12 = .ok (.istore_n 2, 1) := by decide +kernel
theorem dX10_dropToken_13 : decode cX10_dropToken 13 = .ok (.iload_n 2, 1) := by decide +kernel
theorem dX10_dropToken_14 : decode cX10_dropToken 14 = .ok (.aload_n 0, 1) := by decide +kernel
theorem dX10_dropToken_15 : decode cX10_dropToken 15 = .ok (.iconst 5, 1) := by decide +kernel
theorem dX10_dropToken_16 : decode cX10_dropToken 16 = .ok (.iaload, 1) := by decide +kernel
theorem dX10_dropToken_17 : decode cX10_dropToken 17 = .ok (.iconst 0, 1) := by decide +kernel
theorem dX10_dropToken_18 : decode cX10_dropToken 18 = .ok (.invokestatic 66, 3) := by decide +kernel
theorem dX10_dropToken_21 : decode cX10_dropToken 21 = .ok (.if_icmp .ge 18, 3) := by decide +kernel
theorem dX10_dropToken_24 : decode cX10_dropToken 24 = .ok (.aload_n 0, 1) := by decide +kernel
theorem dX10_dropToken_25 : decode cX10_dropToken 25 = .ok (.iload_n 2, 1) := by decide +kernel
theorem dX10_dropToken_26 : decode cX10_dropToken 26 = .ok (.aload_n 0, 1) := by decide +kernel
theorem dX10_dropToken_27 : decode cX10_dropToken 27 = .ok (.iload_n 2, 1) := by decide +kernel
theorem dX10_dropToken_28 : decode cX10_dropToken 28 = .ok (.bipush 6, 2) := by decide +kernel
theorem dX10_dropToken_30 : decode cX10_dropToken 30 = .ok (.iadd, 1) := by decide +kernel
theorem dX10_dropToken_31 : decode cX10_dropToken 31 = .ok (.iaload, 1) := by decide +kernel
theorem dX10_dropToken_32 : decode cX10_dropToken 32 = .ok (.iastore, 1) := by decide +kernel
theorem dX10_dropToken_33 : decode cX10_dropToken 33 = .ok (.iinc 2 1, 3) := by decide +kernel
theorem dX10_dropToken_36 : decode cX10_dropToken 36 = .ok (.goto (-23), 3) := by decide +kernel
theorem dX10_dropToken_39 : decode cX10_dropToken 39 = .ok (.return_, 1) := by decide +kernel
theorem dX10_isOpen_0 : decode cX10_isOpen 0 = .ok (.aload_n 0, 1) := by decide +kernel
theorem dX10_isOpen_1 : decode cX10_isOpen 1 = .ok (.iload_n 1, 1) := by decide +kernel
theorem dX10_isOpen_2 : decode cX10_isOpen 2 = .ok (.iconst 2, 1) := by decide +kernel
theorem dX10_isOpen_3 : decode cX10_isOpen 3 = .ok (.invokestatic 54, 3) := by decide +kernel
theorem dX10_isOpen_6 : decode cX10_isOpen 6 = .ok (.iaload, 1) := by decide +kernel
theorem dX10_isOpen_7 : decode cX10_isOpen 7 = .ok (.iconst 1, 1) := by decide +kernel
theorem dX10_isOpen_8 : decode cX10_isOpen 8 = .ok (.if_icmp .ne 7, 3) := by decide +kernel
theorem dX10_isOpen_11 : decode cX10_isOpen 11 = .ok (.iconst 1, 1) := by decide +kernel
theorem dX10_isOpen_12 : decode cX10_isOpen 12 = .ok (.goto 4, 3) := by decide +kernel
theorem dX10_isOpen_15 : decode cX10_isOpen 15 = .ok (.iconst 0, 1) := by decide +kernel
theorem dX10_isOpen_16 : decode cX10_isOpen 16 = .ok (.ireturn, 1) := by decide +kernel
theorem dX10_isAt_0 : decode cX10_isAt 0 = .ok (.aload_n 0, 1) := by decide +kernel
theorem dX10_isAt_1 : decode cX10_isAt 1 = .ok (.iload_n 1, 1) := by decide +kernel
theorem dX10_isAt_2 : decode cX10_isAt 2 = .ok (.iconst 5, 1) := by decide +kernel
theorem dX10_isAt_3 : decode cX10_isAt 3 = .ok (.invokestatic 66, 3) := by decide +kernel
theorem dX10_isAt_6 : decode cX10_isAt 6 = .ok (.iaload, 1) := by decide +kernel
theorem dX10_isAt_7 : decode cX10_isAt 7 = .ok (.iconst 1, 1) := by decide +kernel
theorem dX10_isAt_8 : decode cX10_isAt 8 = .ok (.if_icmp .ne 18, 3) := by decide +kernel
theorem dX10_isAt_11 : decode cX10_isAt 11 = .ok (.aload_n 0, 1) := by decide +kernel
theorem dX10_isAt_12 : decode cX10_isAt 12 = .ok (.iload_n 1, 1) := by decide +kernel
theorem dX10_isAt_13 : decode cX10_isAt 13 = .ok (.iconst 1, 1) := by decide +kernel
theorem dX10_isAt_14 : decode cX10_isAt 14 = .ok (.invokestatic 66, 3) := by decide +kernel
theorem dX10_isAt_17 : decode cX10_isAt 17 = .ok (.iaload, 1) := by decide +kernel
theorem dX10_isAt_18 : decode cX10_isAt 18 = .ok (.iload_n 2, 1) := by decide +kernel
theorem dX10_isAt_19 : decode cX10_isAt 19 = .ok (.if_icmp .ne 7, 3) := by decide +kernel
theorem dX10_isAt_22 : decode cX10_isAt 22 = .ok (.iconst 1, 1) := by decide +kernel
theorem dX10_isAt_23 : decode cX10_isAt 23 = .ok (.goto 4, 3) := by decide +kernel
theorem dX10_isAt_26 : decode cX10_isAt 26 = .ok (.iconst 0, 1) := by decide +kernel
theorem dX10_isAt_27 : decode cX10_isAt 27 = .ok (.ireturn, 1) := by decide +kernel
theorem dX10_tokenOn_0 : decode cX10_tokenOn 0 = .ok (.iload_n 2, 1) := by decide +kernel
theorem dX10_tokenOn_1 : decode cX10_tokenOn 1 = .ok (.istore_n 3, 1) := by decide +kernel
theorem dX10_tokenOn_2 : decode cX10_tokenOn 2 = .ok (.iload_n 3, 1) := by decide +kernel
theorem dX10_tokenOn_3 : decode cX10_tokenOn 3 = .ok (.aload_n 0, 1) := by decide +kernel
theorem dX10_tokenOn_4 : decode cX10_tokenOn 4 = .ok (.iconst 5, 1) := by decide +kernel
theorem dX10_tokenOn_5 : decode cX10_tokenOn 5 = .ok (.iaload, 1) := by decide +kernel
theorem dX10_tokenOn_6 : decode cX10_tokenOn 6 = .ok (.if_icmp .ge 20, 3) := by decide +kernel
theorem dX10_tokenOn_9 : decode cX10_tokenOn 9 = .ok (.aload_n 0, 1) := by decide +kernel
theorem dX10_tokenOn_10 : decode cX10_tokenOn 10 = .ok (.iload_n 3, 1) := by decide +kernel
theorem dX10_tokenOn_11 : decode cX10_tokenOn 11 = .ok (.iload_n 1, 1) := by decide +kernel
theorem dX10_tokenOn_12 : decode cX10_tokenOn 12 = .ok (.invokestatic 69, 3) := by decide +kernel
theorem dX10_tokenOn_15 : decode cX10_tokenOn 15 = .ok (.ifCond .eq 5, 3) := by decide +kernel
theorem dX10_tokenOn_18 : decode cX10_tokenOn 18 = .ok (.iload_n 3, 1) := by decide +kernel
theorem dX10_tokenOn_19 : decode cX10_tokenOn 19 = .ok (.ireturn, 1) := by decide +kernel
theorem dX10_tokenOn_20 : decode cX10_tokenOn 20 = .ok (.iinc 3 1, 3) := by decide +kernel
theorem dX10_tokenOn_23 : decode cX10_tokenOn 23 = .ok (.goto (-21), 3) := by decide +kernel
theorem dX10_tokenOn_26 : decode cX10_tokenOn 26 = .ok (.bipush (-2), 2) := by decide +kernel
theorem dX10_tokenOn_28 : decode cX10_tokenOn 28 = .ok (.ireturn, 1) := by decide +kernel
theorem dX10_lettersAll_0 : decode cX10_lettersAll 0 = .ok (.iconst 0, 1) := by decide +kernel
theorem dX10_lettersAll_1 : decode cX10_lettersAll 1 = .ok (.istore_n 1, 1) := by decide +kernel
theorem dX10_lettersAll_2 : decode cX10_lettersAll 2 = .ok (.iconst 0, 1) := by decide +kernel
theorem dX10_lettersAll_3 : decode cX10_lettersAll 3 = .ok (.istore_n 2, 1) := by decide +kernel
theorem dX10_lettersAll_4 : decode cX10_lettersAll 4 = .ok (.iload_n 2, 1) := by decide +kernel
theorem dX10_lettersAll_5 : decode cX10_lettersAll 5 = .ok (.aload_n 0, 1) := by decide +kernel
theorem dX10_lettersAll_6 : decode cX10_lettersAll 6 = .ok (.iconst 4, 1) := by decide +kernel
theorem dX10_lettersAll_7 : decode cX10_lettersAll 7 = .ok (.iaload, 1) := by decide +kernel
theorem dX10_lettersAll_8 : decode cX10_lettersAll 8 = .ok (.if_icmp .ge 19, 3) := by decide +kernel
theorem dX10_lettersAll_11 : decode cX10_lettersAll 11 = .ok (.iload_n 1, 1) := by decide +kernel
theorem dX10_lettersAll_12 : decode cX10_lettersAll 12 = .ok (.aload_n 0, 1) := by decide +kernel
theorem dX10_lettersAll_13 : decode cX10_lettersAll 13 = .ok (.iload_n 2, 1) := by decide +kernel
theorem dX10_lettersAll_14 : decode cX10_lettersAll 14 = .ok (.iconst 4, 1) := by decide +kernel
theorem dX10_lettersAll_15 : decode cX10_lettersAll 15 = .ok (.invokestatic 54, 3) := by decide +kernel
theorem dX10_lettersAll_18 : decode cX10_lettersAll 18 = .ok (.iaload, 1) := by decide +kernel
theorem dX10_lettersAll_19 : decode cX10_lettersAll 19 = .ok (.iadd, 1) := by decide +kernel
theorem dX10_lettersAll_20 : decode cX10_lettersAll 20 = .ok (.istore_n 1, 1) := by decide +kernel
theorem dX10_lettersAll_21 : decode cX10_lettersAll 21 = .ok (.iinc 2 1, 3) := by decide +kernel
theorem dX10_lettersAll_24 : decode cX10_lettersAll 24 = .ok (.goto (-20), 3) := by decide +kernel
theorem dX10_lettersAll_27 : decode cX10_lettersAll 27 = .ok (.iload_n 1, 1) := by decide +kernel
theorem dX10_lettersAll_28 : decode cX10_lettersAll 28 = .ok (.ireturn, 1) := by decide +kernel
theorem dX10_lengthOf_0 : decode cX10_lengthOf 0 = .ok (.iconst 0, 1) := by decide +kernel
theorem dX10_lengthOf_1 : decode cX10_lengthOf 1 = .ok (.istore_n 2, 1) := by decide +kernel
theorem dX10_lengthOf_2 : decode cX10_lengthOf 2 = .ok (.iconst 0, 1) := by decide +kernel
theorem dX10_lengthOf_3 : decode cX10_lengthOf 3 = .ok (.istore_n 3, 1) := by decide +kernel
theorem dX10_lengthOf_4 : decode cX10_lengthOf 4 = .ok (.iload_n 3, 1) := by decide +kernel
theorem dX10_lengthOf_5 : decode cX10_lengthOf 5 = .ok (.aload_n 0, 1) := by decide +kernel
theorem dX10_lengthOf_6 : decode cX10_lengthOf 6 = .ok (.iload_n 1, 1) := by decide +kernel
theorem dX10_lengthOf_7 : decode cX10_lengthOf 7 = .ok (.iconst 4, 1) := by decide +kernel
theorem dX10_lengthOf_8 : decode cX10_lengthOf 8 = .ok (.invokestatic 54, 3) := by decide +kernel
theorem dX10_lengthOf_11 : decode cX10_lengthOf 11 = .ok (.iaload, 1) := by decide +kernel
theorem dX10_lengthOf_12 : decode cX10_lengthOf 12 = .ok (.if_icmp .ge 20, 3) := by decide +kernel
theorem dX10_lengthOf_15 : decode cX10_lengthOf 15 = .ok (.iload_n 2, 1) := by decide +kernel
theorem dX10_lengthOf_16 : decode cX10_lengthOf 16 = .ok (.aload_n 0, 1) := by decide +kernel
theorem dX10_lengthOf_17 : decode cX10_lengthOf 17 = .ok (.iload_n 1, 1) := by decide +kernel
theorem dX10_lengthOf_18 : decode cX10_lengthOf 18 = .ok (.iload_n 3, 1) := by decide +kernel
theorem dX10_lengthOf_19 : decode cX10_lengthOf 19 = .ok (.iconst 1, 1) := by decide +kernel
theorem dX10_lengthOf_20 : decode cX10_lengthOf 20 = .ok (.invokestatic 62, 3) := by decide +kernel
theorem dX10_lengthOf_23 : decode cX10_lengthOf 23 = .ok (.iaload, 1) := by decide +kernel
theorem dX10_lengthOf_24 : decode cX10_lengthOf 24 = .ok (.iadd, 1) := by decide +kernel
theorem dX10_lengthOf_25 : decode cX10_lengthOf 25 = .ok (.istore_n 2, 1) := by decide +kernel
theorem dX10_lengthOf_26 : decode cX10_lengthOf 26 = .ok (.iinc 3 1, 3) := by decide +kernel
theorem dX10_lengthOf_29 : decode cX10_lengthOf 29 = .ok (.goto (-25), 3) := by decide +kernel
theorem dX10_lengthOf_32 : decode cX10_lengthOf 32 = .ok (.iload_n 2, 1) := by decide +kernel
theorem dX10_lengthOf_33 : decode cX10_lengthOf 33 = .ok (.ireturn, 1) := by decide +kernel
theorem dX10_winnerOf_0 : decode cX10_winnerOf 0 = .ok (.bipush (-2), 2) := by decide +kernel
theorem dX10_winnerOf_2 : decode cX10_winnerOf 2 = .ok (.istore_n 1, 1) := by decide +kernel
theorem dX10_winnerOf_3 : decode cX10_winnerOf 3 = .ok (.iconst 0, 1) := by decide +kernel
theorem dX10_winnerOf_4 : decode cX10_winnerOf 4 = .ok (.istore_n 2, 1) := by decide +kernel
theorem dX10_winnerOf_5 : decode cX10_winnerOf 5 = .ok (.iload_n 2, 1) := by decide +kernel
theorem dX10_winnerOf_6 : decode cX10_winnerOf 6 = .ok (.aload_n 0, 1) := by decide +kernel
theorem dX10_winnerOf_7 : decode cX10_winnerOf 7 = .ok (.iconst 4, 1) := by decide +kernel
theorem dX10_winnerOf_8 : decode cX10_winnerOf 8 = .ok (.iaload, 1) := by decide +kernel
theorem dX10_winnerOf_9 : decode cX10_winnerOf 9 = .ok (.if_icmp .ge 40, 3) := by decide +kernel
theorem dX10_winnerOf_12 : decode cX10_winnerOf 12 = .ok (.aload_n 0, 1) := by decide +kernel
theorem dX10_winnerOf_13 : decode cX10_winnerOf 13 = .ok (.iload_n 2, 1) := by decide +kernel
theorem dX10_winnerOf_14 : decode cX10_winnerOf 14 = .ok (.invokestatic 73, 3) := by decide +kernel
theorem dX10_winnerOf_17 : decode cX10_winnerOf 17 = .ok (.ifCond .eq 26, 3) := by decide +kernel
theorem dX10_winnerOf_20 : decode cX10_winnerOf 20 = .ok (.iload_n 1, 1) := by decide +kernel
theorem dX10_winnerOf_21 : decode cX10_winnerOf 21 = .ok (.ifCond .lt 20, 3) := by decide +kernel
theorem dX10_winnerOf_24 : decode cX10_winnerOf 24 = .ok (.aload_n 0, 1) := by decide +kernel
theorem dX10_winnerOf_25 : decode cX10_winnerOf 25 = .ok (.iload_n 2, 1) := by decide +kernel
theorem dX10_winnerOf_26 : decode cX10_winnerOf 26 = .ok (.iconst 1, 1) := by decide +kernel
theorem dX10_winnerOf_27 : decode cX10_winnerOf 27 = .ok (.invokestatic 54, 3) := by decide +kernel
theorem dX10_winnerOf_30 : decode cX10_winnerOf 30 = .ok (.iaload, 1) := by decide +kernel
theorem dX10_winnerOf_31 : decode cX10_winnerOf 31 = .ok (.aload_n 0, 1) := by decide +kernel
theorem dX10_winnerOf_32 : decode cX10_winnerOf 32 = .ok (.iload_n 1, 1) := by decide +kernel
theorem dX10_winnerOf_33 : decode cX10_winnerOf 33 = .ok (.iconst 1, 1) := by decide +kernel
theorem dX10_winnerOf_34 : decode cX10_winnerOf 34 = .ok (.invokestatic 54, 3) := by decide +kernel
theorem dX10_winnerOf_37 : decode cX10_winnerOf 37 = .ok (.iaload, 1) := by decide +kernel
theorem dX10_winnerOf_38 : decode cX10_winnerOf 38 = .ok (.if_icmp .le 5, 3) := by decide +kernel
theorem dX10_winnerOf_41 : decode cX10_winnerOf 41 = .ok (.iload_n 2, 1) := by decide +kernel
theorem dX10_winnerOf_42 : decode cX10_winnerOf 42 = .ok (.istore_n 1, 1) := by decide +kernel
theorem dX10_winnerOf_43 : decode cX10_winnerOf 43 = .ok (.iinc 2 1, 3) := by decide +kernel
theorem dX10_winnerOf_46 : decode cX10_winnerOf 46 = .ok (.goto (-41), 3) := by decide +kernel
theorem dX10_winnerOf_49 : decode cX10_winnerOf 49 = .ok (.iload_n 1, 1) := by decide +kernel
theorem dX10_winnerOf_50 : decode cX10_winnerOf 50 = .ok (.ireturn, 1) := by decide +kernel
theorem dX10_tells_0 : decode cX10_tells 0 = .ok (.aload_n 0, 1) := by decide +kernel
theorem dX10_tells_1 : decode cX10_tells 1 = .ok (.sipush 215, 3) := by decide +kernel
theorem dX10_tells_4 : decode cX10_tells 4 = .ok (.iaload, 1) := by decide +kernel
theorem dX10_tells_5 : decode cX10_tells 5 = .ok (.bipush 40, 2) := by decide +kernel
theorem dX10_tells_7 : decode cX10_tells 7 = .ok (.if_icmp .ne 46, 3) := by decide +kernel
theorem dX10_tells_10 : decode cX10_tells 10 = .ok (.iconst 0, 1) := by decide +kernel
theorem dX10_tells_11 : decode cX10_tells 11 = .ok (.istore 4, 2) := by decide +kernel
theorem dX10_tells_13 : decode cX10_tells 13 = .ok (.iload 4, 2) := by decide +kernel
theorem dX10_tells_15 : decode cX10_tells 15 = .ok (.bipush 117, 2) := by decide +kernel
theorem dX10_tells_17 : decode cX10_tells 17 = .ok (.if_icmp .ge 27, 3) := by decide +kernel
theorem dX10_tells_20 : decode cX10_tells 20 = .ok (.aload_n 0, 1) := by decide +kernel
theorem dX10_tells_21 : decode cX10_tells 21 = .ok (.sipush 216, 3) := by decide +kernel
theorem dX10_tells_24 : decode cX10_tells 24 = .ok (.iload 4, 2) := by decide +kernel
theorem dX10_tells_26 : decode cX10_tells 26 = .ok (.iadd, 1) := by decide +kernel
theorem dX10_tells_27 : decode cX10_tells 27 = .ok (.aload_n 0, 1) := by decide +kernel
theorem dX10_tells_28 : decode cX10_tells 28 = .ok (.sipush 216, 3) := by decide +kernel
theorem dX10_tells_31 : decode cX10_tells 31 = .ok (.iload 4, 2) := by decide +kernel
theorem dX10_tells_33 : decode cX10_tells 33 = .ok (.iadd, 1) := by decide +kernel
theorem dX10_tells_34 : decode cX10_tells 34 = .ok (.iconst 3, 1) := by decide +kernel
theorem dX10_tells_35 : decode cX10_tells 35 = .ok (.iadd, 1) := by decide +kernel
theorem dX10_tells_36 : decode cX10_tells 36 = .ok (.iaload, 1) := by decide +kernel
theorem dX10_tells_37 : decode cX10_tells 37 = .ok (.iastore, 1) := by decide +kernel
theorem dX10_tells_38 : decode cX10_tells 38 = .ok (.iinc 4 1, 3) := by decide +kernel
theorem dX10_tells_41 : decode cX10_tells 41 = .ok (.goto (-28), 3) := by decide +kernel
theorem dX10_tells_44 : decode cX10_tells 44 = .ok (.aload_n 0, 1) := by decide +kernel
theorem dX10_tells_45 : decode cX10_tells 45 = .ok (.sipush 215, 3) := by decide +kernel
theorem dX10_tells_48 : decode cX10_tells 48 = .ok (.dup2, 1) := by decide +kernel
theorem dX10_tells_49 : decode cX10_tells 49 = .ok (.iaload, 1) := by decide +kernel
theorem dX10_tells_50 : decode cX10_tells 50 = .ok (.iconst 1, 1) := by decide +kernel
theorem dX10_tells_51 : decode cX10_tells 51 = .ok (.isub, 1) := by decide +kernel
theorem dX10_tells_52 : decode cX10_tells 52 = .ok (.iastore, 1) := by decide +kernel
theorem dX10_tells_53 : decode cX10_tells 53 = .ok (.sipush 216, 3) := by decide +kernel
theorem dX10_tells_56 : decode cX10_tells 56 = .ok (.iconst 3, 1) := by decide +kernel
theorem dX10_tells_57 : decode cX10_tells 57 = .ok (.aload_n 0, 1) := by decide +kernel
theorem dX10_tells_58 : decode cX10_tells 58 = .ok (.sipush 215, 3) := by decide +kernel
theorem dX10_tells_61 : decode cX10_tells 61 = .ok (.iaload, 1) := by decide +kernel
theorem dX10_tells_62 : decode cX10_tells 62 = .ok (.imul, 1) := by decide +kernel
theorem dX10_tells_63 : decode cX10_tells 63 = .ok (.iadd, 1) := by decide +kernel
theorem dX10_tells_64 : decode cX10_tells 64 = .ok (.istore 4, 2) := by decide +kernel
theorem dX10_tells_66 : decode cX10_tells 66 = .ok (.aload_n 0, 1) := by decide +kernel
theorem dX10_tells_67 : decode cX10_tells 67 = .ok (.iload 4, 2) := by decide +kernel
theorem dX10_tells_69 : decode cX10_tells 69 = .ok (.iload_n 1, 1) := by decide +kernel
theorem dX10_tells_70 : decode cX10_tells 70 = .ok (.iastore, 1) := by decide +kernel
theorem dX10_tells_71 : decode cX10_tells 71 = .ok (.aload_n 0, 1) := by decide +kernel
theorem dX10_tells_72 : decode cX10_tells 72 = .ok (.iload 4, 2) := by decide +kernel
theorem dX10_tells_74 : decode cX10_tells 74 = .ok (.iconst 1, 1) := by decide +kernel
theorem dX10_tells_75 : decode cX10_tells 75 = .ok (.iadd, 1) := by decide +kernel
theorem dX10_tells_76 : decode cX10_tells 76 = .ok (.iload_n 2, 1) := by decide +kernel
theorem dX10_tells_77 : decode cX10_tells 77 = .ok (.iastore, 1) := by decide +kernel
theorem dX10_tells_78 : decode cX10_tells 78 = .ok (.aload_n 0, 1) := by decide +kernel
theorem dX10_tells_79 : decode cX10_tells 79 = .ok (.iload 4, 2) := by decide +kernel
theorem dX10_tells_81 : decode cX10_tells 81 = .ok (.iconst 2, 1) := by decide +kernel
theorem dX10_tells_82 : decode cX10_tells 82 = .ok (.iadd, 1) := by decide +kernel
theorem dX10_tells_83 : decode cX10_tells 83 = .ok (.iload_n 3, 1) := by decide +kernel
theorem dX10_tells_84 : decode cX10_tells 84 = .ok (.iastore, 1) := by decide +kernel
theorem dX10_tells_85 : decode cX10_tells 85 = .ok (.aload_n 0, 1) := by decide +kernel
theorem dX10_tells_86 : decode cX10_tells 86 = .ok (.sipush 215, 3) := by decide +kernel
theorem dX10_tells_89 : decode cX10_tells 89 = .ok (.dup2, 1) := by decide +kernel
theorem dX10_tells_90 : decode cX10_tells 90 = .ok (.iaload, 1) := by decide +kernel
theorem dX10_tells_91 : decode cX10_tells 91 = .ok (.iconst 1, 1) := by decide +kernel
theorem dX10_tells_92 : decode cX10_tells 92 = .ok (.iadd, 1) := by decide +kernel
theorem dX10_tells_93 : decode cX10_tells 93 = .ok (.iastore, 1) := by decide +kernel
theorem dX10_tells_94 : decode cX10_tells 94 = .ok (.return_, 1) := by decide +kernel
theorem dX10_setsOut_0 : decode cX10_setsOut 0 = .ok (.aload_n 0, 1) := by decide +kernel
theorem dX10_setsOut_1 : decode cX10_setsOut 1 = .ok (.iload_n 1, 1) := by decide +kernel
theorem dX10_setsOut_2 : decode cX10_setsOut 2 = .ok (.iconst 1, 1) := by decide +kernel
theorem dX10_setsOut_3 : decode cX10_setsOut 3 = .ok (.invokestatic 66, 3) := by decide +kernel
theorem dX10_setsOut_6 : decode cX10_setsOut 6 = .ok (.iaload, 1) := by decide +kernel
theorem dX10_setsOut_7 : decode cX10_setsOut 7 = .ok (.istore_n 2, 1) := by decide +kernel
theorem dX10_setsOut_8 : decode cX10_setsOut 8 = .ok (.aload_n 0, 1) := by decide +kernel
theorem dX10_setsOut_9 : decode cX10_setsOut 9 = .ok (.iload_n 1, 1) := by decide +kernel
theorem dX10_setsOut_10 : decode cX10_setsOut 10 = .ok (.iconst 1, 1) := by decide +kernel
theorem dX10_setsOut_11 : decode cX10_setsOut 11 = .ok (.invokestatic 66, 3) := by decide +kernel
theorem dX10_setsOut_14 : decode cX10_setsOut 14 = .ok (.iload_n 2, 1) := by decide +kernel
theorem dX10_setsOut_15 : decode cX10_setsOut 15 = .ok (.iconst 1, 1) := by decide +kernel
theorem dX10_setsOut_16 : decode cX10_setsOut 16 = .ok (.iadd, 1) := by decide +kernel
theorem dX10_setsOut_17 : decode cX10_setsOut 17 = .ok (.aload_n 0, 1) := by decide +kernel
theorem dX10_setsOut_18 : decode cX10_setsOut 18 = .ok (.iconst 4, 1) := by decide +kernel
theorem dX10_setsOut_19 : decode cX10_setsOut 19 = .ok (.iaload, 1) := by decide +kernel
theorem dX10_setsOut_20 : decode cX10_setsOut 20 = .ok (.irem, 1) := by decide +kernel
theorem dX10_setsOut_21 : decode cX10_setsOut 21 = .ok (.iastore, 1) := by decide +kernel
theorem dX10_setsOut_22 : decode cX10_setsOut 22 = .ok (.aload_n 0, 1) := by decide +kernel
theorem dX10_setsOut_23 : decode cX10_setsOut 23 = .ok (.iload_n 1, 1) := by decide +kernel
theorem dX10_setsOut_24 : decode cX10_setsOut 24 = .ok (.iconst 2, 1) := by decide +kernel
theorem dX10_setsOut_25 : decode cX10_setsOut 25 = .ok (.invokestatic 66, 3) := by decide +kernel
theorem dX10_setsOut_28 : decode cX10_setsOut 28 = .ok (.aload_n 0, 1) := by decide +kernel
theorem dX10_setsOut_29 : decode cX10_setsOut 29 = .ok (.iload_n 2, 1) := by decide +kernel
theorem dX10_setsOut_30 : decode cX10_setsOut 30 = .ok (.iconst 0, 1) := by decide +kernel
theorem dX10_setsOut_31 : decode cX10_setsOut 31 = .ok (.invokestatic 54, 3) := by decide +kernel
theorem dX10_setsOut_34 : decode cX10_setsOut 34 = .ok (.iaload, 1) := by decide +kernel
theorem dX10_setsOut_35 : decode cX10_setsOut 35 = .ok (.iastore, 1) := by decide +kernel
theorem dX10_setsOut_36 : decode cX10_setsOut 36 = .ok (.aload_n 0, 1) := by decide +kernel
theorem dX10_setsOut_37 : decode cX10_setsOut 37 = .ok (.iload_n 1, 1) := by decide +kernel
theorem dX10_setsOut_38 : decode cX10_setsOut 38 = .ok (.iconst 3, 1) := by decide +kernel
theorem dX10_setsOut_39 : decode cX10_setsOut 39 = .ok (.invokestatic 66, 3) := by decide +kernel
theorem dX10_setsOut_42 : decode cX10_setsOut 42 = .ok (.iconst 0, 1) := by decide +kernel
theorem dX10_setsOut_43 : decode cX10_setsOut 43 = .ok (.iastore, 1) := by decide +kernel
theorem dX10_setsOut_44 : decode cX10_setsOut 44 = .ok (.aload_n 0, 1) := by decide +kernel
theorem dX10_setsOut_45 : decode cX10_setsOut 45 = .ok (.iload_n 1, 1) := by decide +kernel
theorem dX10_setsOut_46 : decode cX10_setsOut 46 = .ok (.iconst 4, 1) := by decide +kernel
theorem dX10_setsOut_47 : decode cX10_setsOut 47 = .ok (.invokestatic 66, 3) := by decide +kernel
theorem dX10_setsOut_50 : decode cX10_setsOut 50 = .ok (.iconst 0, 1) := by decide +kernel
theorem dX10_setsOut_51 : decode cX10_setsOut 51 = .ok (.iastore, 1) := by decide +kernel
theorem dX10_setsOut_52 : decode cX10_setsOut 52 = .ok (.aload_n 0, 1) := by decide +kernel
theorem dX10_setsOut_53 : decode cX10_setsOut 53 = .ok (.iload_n 1, 1) := by decide +kernel
theorem dX10_setsOut_54 : decode cX10_setsOut 54 = .ok (.iconst 5, 1) := by decide +kernel
theorem dX10_setsOut_55 : decode cX10_setsOut 55 = .ok (.invokestatic 66, 3) := by decide +kernel
theorem dX10_setsOut_58 : decode cX10_setsOut 58 = .ok (.iconst 0, 1) := by decide +kernel
theorem dX10_setsOut_59 : decode cX10_setsOut 59 = .ok (.iastore, 1) := by decide +kernel
theorem dX10_setsOut_60 : decode cX10_setsOut 60 = .ok (.return_, 1) := by decide +kernel
theorem dX10_drives_0 : decode cX10_drives 0 = .ok (.aload_n 0, 1) := by decide +kernel
theorem dX10_drives_1 : decode cX10_drives 1 = .ok (.iload_n 1, 1) := by decide +kernel
theorem dX10_drives_2 : decode cX10_drives 2 = .ok (.iconst 2, 1) := by decide +kernel
theorem dX10_drives_3 : decode cX10_drives 3 = .ok (.invokestatic 66, 3) := by decide +kernel
theorem dX10_drives_6 : decode cX10_drives 6 = .ok (.dup2, 1) := by decide +kernel
theorem dX10_drives_7 : decode cX10_drives 7 = .ok (.iaload, 1) := by decide +kernel
theorem dX10_drives_8 : decode cX10_drives 8 = .ok (.iconst 1, 1) := by decide +kernel
theorem dX10_drives_9 : decode cX10_drives 9 = .ok (.isub, 1) := by decide +kernel
theorem dX10_drives_10 : decode cX10_drives 10 = .ok (.iastore, 1) := by decide +kernel
theorem dX10_drives_11 : decode cX10_drives 11 = .ok (.aload_n 0, 1) := by decide +kernel
theorem dX10_drives_12 : decode cX10_drives 12 = .ok (.iload_n 1, 1) := by decide +kernel
theorem dX10_drives_13 : decode cX10_drives 13 = .ok (.iconst 2, 1) := by decide +kernel
theorem dX10_drives_14 : decode cX10_drives 14 = .ok (.invokestatic 66, 3) := by decide +kernel
theorem dX10_drives_17 : decode cX10_drives 17 = .ok (.iaload, 1) := by decide +kernel
theorem dX10_drives_18 : decode cX10_drives 18 = .ok (.ifCond .le 4, 3) := by decide +kernel
theorem dX10_drives_21 : decode cX10_drives 21 = .ok (.return_, 1) := by decide +kernel
theorem dX10_drives_22 : decode cX10_drives 22 = .ok (.aload_n 0, 1) := by decide +kernel
theorem dX10_drives_23 : decode cX10_drives 23 = .ok (.iload_n 1, 1) := by decide +kernel
theorem dX10_drives_24 : decode cX10_drives 24 = .ok (.iconst 5, 1) := by decide +kernel
theorem dX10_drives_25 : decode cX10_drives 25 = .ok (.invokestatic 66, 3) := by decide +kernel
theorem dX10_drives_28 : decode cX10_drives 28 = .ok (.iconst 1, 1) := by decide +kernel
theorem dX10_drives_29 : decode cX10_drives 29 = .ok (.iastore, 1) := by decide +kernel
theorem dX10_drives_30 : decode cX10_drives 30 = .ok (.aload_n 0, 1) := by decide +kernel
theorem dX10_drives_31 : decode cX10_drives 31 = .ok (.iload_n 1, 1) := by decide +kernel
theorem dX10_drives_32 : decode cX10_drives 32 = .ok (.iconst 3, 1) := by decide +kernel
theorem dX10_drives_33 : decode cX10_drives 33 = .ok (.invokestatic 66, 3) := by decide +kernel
theorem dX10_drives_36 : decode cX10_drives 36 = .ok (.iconst 0, 1) := by decide +kernel
theorem dX10_drives_37 : decode cX10_drives 37 = .ok (.iastore, 1) := by decide +kernel
theorem dX10_drives_38 : decode cX10_drives 38 = .ok (.aload_n 0, 1) := by decide +kernel
theorem dX10_drives_39 : decode cX10_drives 39 = .ok (.aload_n 0, 1) := by decide +kernel
theorem dX10_drives_40 : decode cX10_drives 40 = .ok (.iload_n 1, 1) := by decide +kernel
theorem dX10_drives_41 : decode cX10_drives 41 = .ok (.iconst 1, 1) := by decide +kernel
theorem dX10_drives_42 : decode cX10_drives 42 = .ok (.invokestatic 66, 3) := by decide +kernel
theorem dX10_drives_45 : decode cX10_drives 45 = .ok (.iaload, 1) := by decide +kernel
theorem dX10_drives_46 : decode cX10_drives 46 = .ok (.invokestatic 73, 3) := by decide +kernel
theorem dX10_drives_49 : decode cX10_drives 49 = .ok (.ifCond .ne 8, 3) := by decide +kernel
theorem dX10_drives_52 : decode cX10_drives 52 = .ok (.aload_n 0, 1) := by decide +kernel
theorem dX10_drives_53 : decode cX10_drives 53 = .ok (.iload_n 1, 1) := by decide +kernel
theorem dX10_drives_54 : decode cX10_drives 54 = .ok (.invokestatic 77, 3) := by decide +kernel
theorem dX10_drives_57 : decode cX10_drives 57 = .ok (.return_, 1) := by decide +kernel
theorem dX10_speaks_0 : decode cX10_speaks 0 = .ok (.aload_n 0, 1) := by decide +kernel
theorem dX10_speaks_1 : decode cX10_speaks 1 = .ok (.iload_n 1, 1) := by decide +kernel
theorem dX10_speaks_2 : decode cX10_speaks 2 = .ok (.iconst 1, 1) := by decide +kernel
theorem dX10_speaks_3 : decode cX10_speaks 3 = .ok (.invokestatic 66, 3) := by decide +kernel
theorem dX10_speaks_6 : decode cX10_speaks 6 = .ok (.iaload, 1) := by decide +kernel
theorem dX10_speaks_7 : decode cX10_speaks 7 = .ok (.istore_n 2, 1) := by decide +kernel
theorem dX10_speaks_8 : decode cX10_speaks 8 = .ok (.aload_n 0, 1) := by decide +kernel
theorem dX10_speaks_9 : decode cX10_speaks 9 = .ok (.iload_n 1, 1) := by decide +kernel
theorem dX10_speaks_10 : decode cX10_speaks 10 = .ok (.iconst 4, 1) := by decide +kernel
theorem dX10_speaks_11 : decode cX10_speaks 11 = .ok (.invokestatic 66, 3) := by decide +kernel
theorem dX10_speaks_14 : decode cX10_speaks 14 = .ok (.dup2, 1) := by decide +kernel
theorem dX10_speaks_15 : decode cX10_speaks 15 = .ok (.iaload, 1) := by decide +kernel
theorem dX10_speaks_16 : decode cX10_speaks 16 = .ok (.iconst 1, 1) := by decide +kernel
theorem dX10_speaks_17 : decode cX10_speaks 17 = .ok (.isub, 1) := by decide +kernel
theorem dX10_speaks_18 : decode cX10_speaks 18 = .ok (.iastore, 1) := by decide +kernel
theorem dX10_speaks_19 : decode cX10_speaks 19 = .ok (.aload_n 0, 1) := by decide +kernel
theorem dX10_speaks_20 : decode cX10_speaks 20 = .ok (.iload_n 1, 1) := by decide +kernel
theorem dX10_speaks_21 : decode cX10_speaks 21 = .ok (.iconst 3, 1) := by decide +kernel
theorem dX10_speaks_22 : decode cX10_speaks 22 = .ok (.invokestatic 66, 3) := by decide +kernel
theorem dX10_speaks_25 : decode cX10_speaks 25 = .ok (.dup2, 1) := by decide +kernel
theorem dX10_speaks_26 : decode cX10_speaks 26 = .ok (.iaload, 1) := by decide +kernel
theorem dX10_speaks_27 : decode cX10_speaks 27 = .ok (.iconst 1, 1) := by decide +kernel
theorem dX10_speaks_28 : decode cX10_speaks 28 = .ok (.iadd, 1) := by decide +kernel
theorem dX10_speaks_29 : decode cX10_speaks 29 = .ok (.iastore, 1) := by decide +kernel
theorem dX10_speaks_30 : decode cX10_speaks 30 = .ok (.aload_n 0, 1) := by decide +kernel
theorem dX10_speaks_31 : decode cX10_speaks 31 = .ok (.iload_n 2, 1) := by decide +kernel
theorem dX10_speaks_32 : decode cX10_speaks 32 = .ok (.iconst 3, 1) := by decide +kernel
theorem dX10_speaks_33 : decode cX10_speaks 33 = .ok (.invokestatic 54, 3) := by decide +kernel
theorem dX10_speaks_36 : decode cX10_speaks 36 = .ok (.dup2, 1) := by decide +kernel
theorem dX10_speaks_37 : decode cX10_speaks 37 = .ok (.iaload, 1) := by decide +kernel
theorem dX10_speaks_38 : decode cX10_speaks 38 = .ok (.iconst 1, 1) := by decide +kernel
theorem dX10_speaks_39 : decode cX10_speaks 39 = .ok (.iadd, 1) := by decide +kernel
theorem dX10_speaks_40 : decode cX10_speaks 40 = .ok (.iastore, 1) := by decide +kernel
theorem dX10_speaks_41 : decode cX10_speaks 41 = .ok (.aload_n 0, 1) := by decide +kernel
theorem dX10_speaks_42 : decode cX10_speaks 42 = .ok (.bipush 16, 2) := by decide +kernel
theorem dX10_speaks_44 : decode cX10_speaks 44 = .ok (.dup2, 1) := by decide +kernel
theorem dX10_speaks_45 : decode cX10_speaks 45 = .ok (.iaload, 1) := by decide +kernel
theorem dX10_speaks_46 : decode cX10_speaks 46 = .ok (.iconst 1, 1) := by decide +kernel
theorem dX10_speaks_47 : decode cX10_speaks 47 = .ok (.iadd, 1) := by decide +kernel
theorem dX10_speaks_48 : decode cX10_speaks 48 = .ok (.iastore, 1) := by decide +kernel
theorem dX10_speaks_49 : decode cX10_speaks 49 = .ok (.aload_n 0, 1) := by decide +kernel
theorem dX10_speaks_50 : decode cX10_speaks 50 = .ok (.iload_n 1, 1) := by decide +kernel
theorem dX10_speaks_51 : decode cX10_speaks 51 = .ok (.iconst 4, 1) := by decide +kernel
theorem dX10_speaks_52 : decode cX10_speaks 52 = .ok (.invokestatic 66, 3) := by decide +kernel
theorem dX10_speaks_55 : decode cX10_speaks 55 = .ok (.iaload, 1) := by decide +kernel
theorem dX10_speaks_56 : decode cX10_speaks 56 = .ok (.ifCond .ne 8, 3) := by decide +kernel
theorem dX10_speaks_59 : decode cX10_speaks 59 = .ok (.aload_n 0, 1) := by decide +kernel
theorem dX10_speaks_60 : decode cX10_speaks 60 = .ok (.iload_n 2, 1) := by decide +kernel
theorem dX10_speaks_61 : decode cX10_speaks 61 = .ok (.invokestatic 81, 3) := by decide +kernel
theorem dX10_speaks_64 : decode cX10_speaks 64 = .ok (.return_, 1) := by decide +kernel
theorem dX10_isThrough_0 : decode cX10_isThrough 0 = .ok (.aload_n 0, 1) := by decide +kernel
theorem dX10_isThrough_1 : decode cX10_isThrough 1 = .ok (.iload_n 1, 1) := by decide +kernel
theorem dX10_isThrough_2 : decode cX10_isThrough 2 = .ok (.iconst 0, 1) := by decide +kernel
theorem dX10_isThrough_3 : decode cX10_isThrough 3 = .ok (.iconst 0, 1) := by decide +kernel
theorem dX10_isThrough_4 : decode cX10_isThrough 4 = .ok (.invokestatic 62, 3) := by decide +kernel
theorem dX10_isThrough_7 : decode cX10_isThrough 7 = .ok (.iaload, 1) := by decide +kernel
theorem dX10_isThrough_8 : decode cX10_isThrough 8 = .ok (.istore_n 2, 1) := by decide +kernel
theorem dX10_isThrough_9 : decode cX10_isThrough 9 = .ok (.aload_n 0, 1) := by decide +kernel
theorem dX10_isThrough_10 : decode cX10_isThrough 10 = .ok (.iload_n 1, 1) := by decide +kernel
theorem dX10_isThrough_11 : decode cX10_isThrough 11 = .ok (.iconst 0, 1) := by decide +kernel
theorem dX10_isThrough_12 : decode cX10_isThrough 12 = .ok (.iconst 1, 1) := by decide +kernel
theorem dX10_isThrough_13 : decode cX10_isThrough 13 = .ok (.invokestatic 62, 3) := by decide +kernel
theorem dX10_isThrough_16 : decode cX10_isThrough 16 = .ok (.iaload, 1) := by decide +kernel
theorem dX10_isThrough_17 : decode cX10_isThrough 17 = .ok (.istore_n 3, 1) := by decide +kernel
theorem dX10_isThrough_18 : decode cX10_isThrough 18 = .ok (.aload_n 0, 1) := by decide +kernel
theorem dX10_isThrough_19 : decode cX10_isThrough 19 = .ok (.iload_n 1, 1) := by decide +kernel
theorem dX10_isThrough_20 : decode cX10_isThrough 20 = .ok (.iconst 0, 1) := by decide +kernel
theorem dX10_isThrough_21 : decode cX10_isThrough 21 = .ok (.invokestatic 84, 3) := by decide +kernel
theorem dX10_isThrough_24 : decode cX10_isThrough 24 = .ok (.aload_n 0, 1) := by decide +kernel
theorem dX10_isThrough_25 : decode cX10_isThrough 25 = .ok (.iload_n 2, 1) := by decide +kernel
theorem dX10_isThrough_26 : decode cX10_isThrough 26 = .ok (.invokestatic 73, 3) := by decide +kernel
theorem dX10_isThrough_29 : decode cX10_isThrough 29 = .ok (.ifCond .eq 37, 3) := by decide +kernel
theorem dX10_isThrough_32 : decode cX10_isThrough 32 = .ok (.aload_n 0, 1) := by decide +kernel
theorem dX10_isThrough_33 : decode cX10_isThrough 33 = .ok (.bipush 9, 2) := by decide +kernel
theorem dX10_isThrough_35 : decode cX10_isThrough 35 = .ok (.dup2, 1) := by decide +kernel
theorem dX10_isThrough_36 : decode cX10_isThrough 36 = .ok (.iaload, 1) := by decide +kernel
theorem dX10_isThrough_37 : decode cX10_isThrough 37 = .ok (.iconst 1, 1) := by decide +kernel
theorem dX10_isThrough_38 : decode cX10_isThrough 38 = .ok (.iadd, 1) := by decide +kernel
theorem dX10_isThrough_39 : decode cX10_isThrough 39 = .ok (.iastore, 1) := by decide +kernel
theorem dX10_isThrough_40 : decode cX10_isThrough 40 = .ok (.aload_n 0, 1) := by decide +kernel
theorem dX10_isThrough_41 : decode cX10_isThrough 41 = .ok (.iload_n 2, 1) := by decide +kernel
theorem dX10_isThrough_42 : decode cX10_isThrough 42 = .ok (.iconst 5, 1) := by decide +kernel
theorem dX10_isThrough_43 : decode cX10_isThrough 43 = .ok (.invokestatic 54, 3) := by decide +kernel
theorem dX10_isThrough_46 : decode cX10_isThrough 46 = .ok (.dup2, 1) := by decide +kernel
theorem dX10_isThrough_47 : decode cX10_isThrough 47 = .ok (.iaload, 1) := by decide +kernel
theorem dX10_isThrough_48 : decode cX10_isThrough 48 = .ok (.iconst 1, 1) := by decide +kernel
theorem dX10_isThrough_49 : decode cX10_isThrough 49 = .ok (.iadd, 1) := by decide +kernel
theorem dX10_isThrough_50 : decode cX10_isThrough 50 = .ok (.iastore, 1) := by decide +kernel
theorem dX10_isThrough_51 : decode cX10_isThrough 51 = .ok (.aload_n 0, 1) := by decide +kernel
theorem dX10_isThrough_52 : decode cX10_isThrough 52 = .ok (.iconst 1, 1) := by decide +kernel
theorem dX10_isThrough_53 : decode cX10_isThrough 53 = .ok (.bipush 100, 2) := by decide +kernel
theorem dX10_isThrough_55 : decode cX10_isThrough 55 = .ok (.iload_n 1, 1) := by decide +kernel
theorem dX10_isThrough_56 : decode cX10_isThrough 56 = .ok (.imul, 1) := by decide +kernel
theorem dX10_isThrough_57 : decode cX10_isThrough 57 = .ok (.iload_n 2, 1) := by decide +kernel
theorem dX10_isThrough_58 : decode cX10_isThrough 58 = .ok (.iadd, 1) := by decide +kernel
theorem dX10_isThrough_59 : decode cX10_isThrough 59 = .ok (.iload_n 3, 1) := by decide +kernel
theorem dX10_isThrough_60 : decode cX10_isThrough 60 = .ok (.invokestatic 88, 3) := by decide +kernel
theorem dX10_isThrough_63 : decode cX10_isThrough 63 = .ok (.goto 23, 3) := by decide +kernel
theorem dX10_isThrough_66 : decode cX10_isThrough 66 = .ok (.aload_n 0, 1) := by decide +kernel
theorem dX10_isThrough_67 : decode cX10_isThrough 67 = .ok (.bipush 10, 2) := by decide +kernel
theorem dX10_isThrough_69 : decode cX10_isThrough 69 = .ok (.dup2, 1) := by decide +kernel
theorem dX10_isThrough_70 : decode cX10_isThrough 70 = .ok (.iaload, 1) := by decide +kernel
theorem dX10_isThrough_71 : decode cX10_isThrough 71 = .ok (.iconst 1, 1) := by decide +kernel
theorem dX10_isThrough_72 : decode cX10_isThrough 72 = .ok (.iadd, 1) := by decide +kernel
theorem dX10_isThrough_73 : decode cX10_isThrough 73 = .ok (.iastore, 1) := by decide +kernel
theorem dX10_isThrough_74 : decode cX10_isThrough 74 = .ok (.aload_n 0, 1) := by decide +kernel
theorem dX10_isThrough_75 : decode cX10_isThrough 75 = .ok (.iconst 2, 1) := by decide +kernel
theorem dX10_isThrough_76 : decode cX10_isThrough 76 = .ok (.bipush 100, 2) := by decide +kernel
theorem dX10_isThrough_78 : decode cX10_isThrough 78 = .ok (.iload_n 1, 1) := by decide +kernel
theorem dX10_isThrough_79 : decode cX10_isThrough 79 = .ok (.imul, 1) := by decide +kernel
theorem dX10_isThrough_80 : decode cX10_isThrough 80 = .ok (.iload_n 2, 1) := by decide +kernel
theorem dX10_isThrough_81 : decode cX10_isThrough 81 = .ok (.iadd, 1) := by decide +kernel
theorem dX10_isThrough_82 : decode cX10_isThrough 82 = .ok (.iload_n 3, 1) := by decide +kernel
theorem dX10_isThrough_83 : decode cX10_isThrough 83 = .ok (.invokestatic 88, 3) := by decide +kernel
theorem dX10_isThrough_86 : decode cX10_isThrough 86 = .ok (.return_, 1) := by decide +kernel
theorem dX10_whyNot_0 : decode cX10_whyNot 0 = .ok (.aload_n 0, 1) := by decide +kernel
theorem dX10_whyNot_1 : decode cX10_whyNot 1 = .ok (.iload_n 1, 1) := by decide +kernel
theorem dX10_whyNot_2 : decode cX10_whyNot 2 = .ok (.iconst 4, 1) := by decide +kernel
theorem dX10_whyNot_3 : decode cX10_whyNot 3 = .ok (.invokestatic 54, 3) := by decide +kernel
theorem dX10_whyNot_6 : decode cX10_whyNot 6 = .ok (.iaload, 1) := by decide +kernel
theorem dX10_whyNot_7 : decode cX10_whyNot 7 = .ok (.ifCond .ne 5, 3) := by decide +kernel
theorem dX10_whyNot_10 : decode cX10_whyNot 10 = .ok (.iconst 3, 1) := by decide +kernel
theorem dX10_whyNot_11 : decode cX10_whyNot 11 = .ok (.ireturn, 1) := by decide +kernel
theorem dX10_whyNot_12 : decode cX10_whyNot 12 = .ok (.aload_n 0, 1) := by decide +kernel
theorem dX10_whyNot_13 : decode cX10_whyNot 13 = .ok (.iload_n 1, 1) := by decide +kernel
theorem dX10_whyNot_14 : decode cX10_whyNot 14 = .ok (.iconst 0, 1) := by decide +kernel
theorem dX10_whyNot_15 : decode cX10_whyNot 15 = .ok (.iconst 1, 1) := by decide +kernel
theorem dX10_whyNot_16 : decode cX10_whyNot 16 = .ok (.invokestatic 62, 3) := by decide +kernel
theorem dX10_whyNot_19 : decode cX10_whyNot 19 = .ok (.iaload, 1) := by decide +kernel
theorem dX10_whyNot_20 : decode cX10_whyNot 20 = .ok (.istore_n 3, 1) := by decide +kernel
theorem dX10_whyNot_21 : decode cX10_whyNot 21 = .ok (.iload_n 3, 1) := by decide +kernel
theorem dX10_whyNot_22 : decode cX10_whyNot 22 = .ok (.aload_n 0, 1) := by decide +kernel
theorem dX10_whyNot_23 : decode cX10_whyNot 23 = .ok (.iconst 0, 1) := by decide +kernel
theorem dX10_whyNot_24 : decode cX10_whyNot 24 = .ok (.iaload, 1) := by decide +kernel
theorem dX10_whyNot_25 : decode cX10_whyNot 25 = .ok (.aload_n 0, 1) := by decide +kernel
theorem dX10_whyNot_26 : decode cX10_whyNot 26 = .ok (.iload_n 2, 1) := by decide +kernel
theorem dX10_whyNot_27 : decode cX10_whyNot 27 = .ok (.iconst 3, 1) := by decide +kernel
theorem dX10_whyNot_28 : decode cX10_whyNot 28 = .ok (.invokestatic 66, 3) := by decide +kernel
theorem dX10_whyNot_31 : decode cX10_whyNot 31 = .ok (.iaload, 1) := by decide +kernel
theorem dX10_whyNot_32 : decode cX10_whyNot 32 = .ok (.isub, 1) := by decide +kernel
theorem dX10_whyNot_33 : decode cX10_whyNot 33 = .ok (.if_icmp .le 5, 3) := by decide +kernel
theorem dX10_whyNot_36 : decode cX10_whyNot 36 = .ok (.iconst 4, 1) := by decide +kernel
theorem dX10_whyNot_37 : decode cX10_whyNot 37 = .ok (.ireturn, 1) := by decide +kernel
theorem dX10_whyNot_38 : decode cX10_whyNot 38 = .ok (.iload_n 3, 1) := by decide +kernel
theorem dX10_whyNot_39 : decode cX10_whyNot 39 = .ok (.aload_n 0, 1) := by decide +kernel
theorem dX10_whyNot_40 : decode cX10_whyNot 40 = .ok (.iconst 2, 1) := by decide +kernel
theorem dX10_whyNot_41 : decode cX10_whyNot 41 = .ok (.iaload, 1) := by decide +kernel
theorem dX10_whyNot_42 : decode cX10_whyNot 42 = .ok (.aload_n 0, 1) := by decide +kernel
theorem dX10_whyNot_43 : decode cX10_whyNot 43 = .ok (.iload_n 1, 1) := by decide +kernel
theorem dX10_whyNot_44 : decode cX10_whyNot 44 = .ok (.iconst 3, 1) := by decide +kernel
theorem dX10_whyNot_45 : decode cX10_whyNot 45 = .ok (.invokestatic 54, 3) := by decide +kernel
theorem dX10_whyNot_48 : decode cX10_whyNot 48 = .ok (.iaload, 1) := by decide +kernel
theorem dX10_whyNot_49 : decode cX10_whyNot 49 = .ok (.isub, 1) := by decide +kernel
theorem dX10_whyNot_50 : decode cX10_whyNot 50 = .ok (.if_icmp .le 7, 3) := by decide +kernel
theorem dX10_whyNot_53 : decode cX10_whyNot 53 = .ok (.iconst 5, 1) := by decide +kernel
theorem dX10_whyNot_54 : decode cX10_whyNot 54 = .ok (.goto 5, 3) := by decide +kernel
theorem dX10_whyNot_57 : decode cX10_whyNot 57 = .ok (.bipush 6, 2) := by decide +kernel
theorem dX10_whyNot_59 : decode cX10_whyNot 59 = .ok (.ireturn, 1) := by decide +kernel
theorem dX10_begins_0 : decode cX10_begins 0 = .ok (.aload_n 0, 1) := by decide +kernel
theorem dX10_begins_1 : decode cX10_begins 1 = .ok (.iload_n 1, 1) := by decide +kernel
theorem dX10_begins_2 : decode cX10_begins 2 = .ok (.iconst 1, 1) := by decide +kernel
theorem dX10_begins_3 : decode cX10_begins 3 = .ok (.invokestatic 66, 3) := by decide +kernel
theorem dX10_begins_6 : decode cX10_begins 6 = .ok (.iaload, 1) := by decide +kernel
theorem dX10_begins_7 : decode cX10_begins 7 = .ok (.istore_n 2, 1) := by decide +kernel
theorem dX10_begins_8 : decode cX10_begins 8 = .ok (.aload_n 0, 1) := by decide +kernel
theorem dX10_begins_9 : decode cX10_begins 9 = .ok (.iload_n 2, 1) := by decide +kernel
theorem dX10_begins_10 : decode cX10_begins 10 = .ok (.invokestatic 73, 3) := by decide +kernel
theorem dX10_begins_13 : decode cX10_begins 13 = .ok (.ifCond .eq 32, 3) := by decide +kernel
theorem dX10_begins_16 : decode cX10_begins 16 = .ok (.aload_n 0, 1) := by decide +kernel
theorem dX10_begins_17 : decode cX10_begins 17 = .ok (.iload_n 2, 1) := by decide +kernel
theorem dX10_begins_18 : decode cX10_begins 18 = .ok (.iload_n 1, 1) := by decide +kernel
theorem dX10_begins_19 : decode cX10_begins 19 = .ok (.invokestatic 91, 3) := by decide +kernel
theorem dX10_begins_22 : decode cX10_begins 22 = .ok (.bipush 6, 2) := by decide +kernel
theorem dX10_begins_24 : decode cX10_begins 24 = .ok (.if_icmp .ne 21, 3) := by decide +kernel
theorem dX10_begins_27 : decode cX10_begins 27 = .ok (.aload_n 0, 1) := by decide +kernel
theorem dX10_begins_28 : decode cX10_begins 28 = .ok (.iload_n 1, 1) := by decide +kernel
theorem dX10_begins_29 : decode cX10_begins 29 = .ok (.iconst 4, 1) := by decide +kernel
theorem dX10_begins_30 : decode cX10_begins 30 = .ok (.invokestatic 66, 3) := by decide +kernel
theorem dX10_begins_33 : decode cX10_begins 33 = .ok (.aload_n 0, 1) := by decide +kernel
theorem dX10_begins_34 : decode cX10_begins 34 = .ok (.iload_n 2, 1) := by decide +kernel
theorem dX10_begins_35 : decode cX10_begins 35 = .ok (.iconst 0, 1) := by decide +kernel
theorem dX10_begins_36 : decode cX10_begins 36 = .ok (.iconst 1, 1) := by decide +kernel
theorem dX10_begins_37 : decode cX10_begins 37 = .ok (.invokestatic 62, 3) := by decide +kernel
theorem dX10_begins_40 : decode cX10_begins 40 = .ok (.iaload, 1) := by decide +kernel
theorem dX10_begins_41 : decode cX10_begins 41 = .ok (.iastore, 1) := by decide +kernel
theorem dX10_begins_42 : decode cX10_begins 42 = .ok (.goto 8, 3) := by decide +kernel
theorem dX10_begins_45 : decode cX10_begins 45 = .ok (.aload_n 0, 1) := by decide +kernel
theorem dX10_begins_46 : decode cX10_begins 46 = .ok (.iload_n 1, 1) := by decide +kernel
theorem dX10_begins_47 : decode cX10_begins 47 = .ok (.invokestatic 77, 3) := by decide +kernel
theorem dX10_begins_50 : decode cX10_begins 50 = .ok (.return_, 1) := by decide +kernel
theorem dX10_acts_0 : decode cX10_acts 0 = .ok (.aload_n 0, 1) := by decide +kernel
theorem dX10_acts_1 : decode cX10_acts 1 = .ok (.iload_n 1, 1) := by decide +kernel
theorem dX10_acts_2 : decode cX10_acts 2 = .ok (.iconst 5, 1) := by decide +kernel
theorem dX10_acts_3 : decode cX10_acts 3 = .ok (.invokestatic 66, 3) := by decide +kernel
theorem dX10_acts_6 : decode cX10_acts 6 = .ok (.iaload, 1) := by decide +kernel
theorem dX10_acts_7 : decode cX10_acts 7 = .ok (.ifCond .ne 11, 3) := by decide +kernel
theorem dX10_acts_10 : decode cX10_acts 10 = .ok (.aload_n 0, 1) := by decide +kernel
theorem dX10_acts_11 : decode cX10_acts 11 = .ok (.iload_n 1, 1) := by decide +kernel
theorem dX10_acts_12 : decode cX10_acts 12 = .ok (.invokestatic 95, 3) := by decide +kernel
theorem dX10_acts_15 : decode cX10_acts 15 = .ok (.goto 26, 3) := by decide +kernel
theorem dX10_acts_18 : decode cX10_acts 18 = .ok (.aload_n 0, 1) := by decide +kernel
theorem dX10_acts_19 : decode cX10_acts 19 = .ok (.iload_n 1, 1) := by decide +kernel
theorem dX10_acts_20 : decode cX10_acts 20 = .ok (.iconst 4, 1) := by decide +kernel
theorem dX10_acts_21 : decode cX10_acts 21 = .ok (.invokestatic 66, 3) := by decide +kernel
theorem dX10_acts_24 : decode cX10_acts 24 = .ok (.iaload, 1) := by decide +kernel
theorem dX10_acts_25 : decode cX10_acts 25 = .ok (.ifCond .le 11, 3) := by decide +kernel
theorem dX10_acts_28 : decode cX10_acts 28 = .ok (.aload_n 0, 1) := by decide +kernel
theorem dX10_acts_29 : decode cX10_acts 29 = .ok (.iload_n 1, 1) := by decide +kernel
theorem dX10_acts_30 : decode cX10_acts 30 = .ok (.invokestatic 98, 3) := by decide +kernel
theorem dX10_acts_33 : decode cX10_acts 33 = .ok (.goto 8, 3) := by decide +kernel
theorem dX10_acts_36 : decode cX10_acts 36 = .ok (.aload_n 0, 1) := by decide +kernel
theorem dX10_acts_37 : decode cX10_acts 37 = .ok (.iload_n 1, 1) := by decide +kernel
theorem dX10_acts_38 : decode cX10_acts 38 = .ok (.invokestatic 101, 3) := by decide +kernel
theorem dX10_acts_41 : decode cX10_acts 41 = .ok (.return_, 1) := by decide +kernel
theorem dX10_tears_0 : decode cX10_tears 0 = .ok (.aload_n 0, 1) := by decide +kernel
theorem dX10_tears_1 : decode cX10_tears 1 = .ok (.bipush 13, 2) := by decide +kernel
theorem dX10_tears_3 : decode cX10_tears 3 = .ok (.dup2, 1) := by decide +kernel
theorem dX10_tears_4 : decode cX10_tears 4 = .ok (.iaload, 1) := by decide +kernel
theorem dX10_tears_5 : decode cX10_tears 5 = .ok (.iconst 1, 1) := by decide +kernel
theorem dX10_tears_6 : decode cX10_tears 6 = .ok (.iadd, 1) := by decide +kernel
theorem dX10_tears_7 : decode cX10_tears 7 = .ok (.iastore, 1) := by decide +kernel
theorem dX10_tears_8 : decode cX10_tears 8 = .ok (.aload_n 0, 1) := by decide +kernel
theorem dX10_tears_9 : decode cX10_tears 9 = .ok (.iconst 3, 1) := by decide +kernel
theorem dX10_tears_10 : decode cX10_tears 10 = .ok (.aload_n 0, 1) := by decide +kernel
theorem dX10_tears_11 : decode cX10_tears 11 = .ok (.iload_n 1, 1) := by decide +kernel
theorem dX10_tears_12 : decode cX10_tears 12 = .ok (.iconst 0, 1) := by decide +kernel
theorem dX10_tears_13 : decode cX10_tears 13 = .ok (.invokestatic 66, 3) := by decide +kernel
theorem dX10_tears_16 : decode cX10_tears 16 = .ok (.iaload, 1) := by decide +kernel
theorem dX10_tears_17 : decode cX10_tears 17 = .ok (.aload_n 0, 1) := by decide +kernel
theorem dX10_tears_18 : decode cX10_tears 18 = .ok (.iload_n 1, 1) := by decide +kernel
theorem dX10_tears_19 : decode cX10_tears 19 = .ok (.iconst 1, 1) := by decide +kernel
theorem dX10_tears_20 : decode cX10_tears 20 = .ok (.invokestatic 66, 3) := by decide +kernel
theorem dX10_tears_23 : decode cX10_tears 23 = .ok (.iaload, 1) := by decide +kernel
theorem dX10_tears_24 : decode cX10_tears 24 = .ok (.invokestatic 88, 3) := by decide +kernel
theorem dX10_tears_27 : decode cX10_tears 27 = .ok (.aload_n 0, 1) := by decide +kernel
theorem dX10_tears_28 : decode cX10_tears 28 = .ok (.iload_n 1, 1) := by decide +kernel
theorem dX10_tears_29 : decode cX10_tears 29 = .ok (.invokestatic 104, 3) := by decide +kernel
theorem dX10_tears_32 : decode cX10_tears 32 = .ok (.return_, 1) := by decide +kernel
theorem dX10_olderOne_0 : decode cX10_olderOne 0 = .ok (.iconst 0, 1) := by decide +kernel
theorem dX10_olderOne_1 : decode cX10_olderOne 1 = .ok (.istore_n 1, 1) := by decide +kernel
theorem dX10_olderOne_2 : decode cX10_olderOne 2 = .ok (.iload_n 1, 1) := by decide +kernel
theorem dX10_olderOne_3 : decode cX10_olderOne 3 = .ok (.aload_n 0, 1) := by decide +kernel
theorem dX10_olderOne_4 : decode cX10_olderOne 4 = .ok (.iconst 5, 1) := by decide +kernel
theorem dX10_olderOne_5 : decode cX10_olderOne 5 = .ok (.iaload, 1) := by decide +kernel
theorem dX10_olderOne_6 : decode cX10_olderOne 6 = .ok (.if_icmp .ge 39, 3) := by decide +kernel
theorem dX10_olderOne_9 : decode cX10_olderOne 9 = .ok (.aload_n 0, 1) := by decide +kernel
theorem dX10_olderOne_10 : decode cX10_olderOne 10 = .ok (.iload_n 1, 1) := by decide +kernel
theorem dX10_olderOne_11 : decode cX10_olderOne 11 = .ok (.iconst 5, 1) := by decide +kernel
theorem dX10_olderOne_12 : decode cX10_olderOne 12 = .ok (.invokestatic 66, 3) := by decide +kernel
theorem dX10_olderOne_15 : decode cX10_olderOne 15 = .ok (.iaload, 1) := by decide +kernel
theorem dX10_olderOne_16 : decode cX10_olderOne 16 = .ok (.iconst 1, 1) := by decide +kernel
theorem dX10_olderOne_17 : decode cX10_olderOne 17 = .ok (.if_icmp .ne 22, 3) := by decide +kernel
theorem dX10_olderOne_20 : decode cX10_olderOne 20 = .ok (.aload_n 0, 1) := by decide +kernel
theorem dX10_olderOne_21 : decode cX10_olderOne 21 = .ok (.aload_n 0, 1) := by decide +kernel
theorem dX10_olderOne_22 : decode cX10_olderOne 22 = .ok (.iload_n 1, 1) := by decide +kernel
theorem dX10_olderOne_23 : decode cX10_olderOne 23 = .ok (.iconst 1, 1) := by decide +kernel
theorem dX10_olderOne_24 : decode cX10_olderOne 24 = .ok (.invokestatic 66, 3) := by decide +kernel
theorem dX10_olderOne_27 : decode cX10_olderOne 27 = .ok (.iaload, 1) := by decide +kernel
theorem dX10_olderOne_28 : decode cX10_olderOne 28 = .ok (.iload_n 1, 1) := by decide +kernel
theorem dX10_olderOne_29 : decode cX10_olderOne 29 = .ok (.iconst 1, 1) := by decide +kernel
theorem dX10_olderOne_30 : decode cX10_olderOne 30 = .ok (.iadd, 1) := by decide +kernel
theorem dX10_olderOne_31 : decode cX10_olderOne 31 = .ok (.invokestatic 107, 3) := by decide +kernel
theorem dX10_olderOne_34 : decode cX10_olderOne 34 = .ok (.ifCond .lt 5, 3) := by decide +kernel
theorem dX10_olderOne_37 : decode cX10_olderOne 37 = .ok (.iload_n 1, 1) := by decide +kernel
theorem dX10_olderOne_38 : decode cX10_olderOne 38 = .ok (.ireturn, 1) := by decide +kernel
theorem dX10_olderOne_39 : decode cX10_olderOne 39 = .ok (.iinc 1 1, 3) := by decide +kernel
theorem dX10_olderOne_42 : decode cX10_olderOne 42 = .ok (.goto (-40), 3) := by decide +kernel
theorem dX10_olderOne_45 : decode cX10_olderOne 45 = .ok (.bipush (-2), 2) := by decide +kernel
theorem dX10_olderOne_47 : decode cX10_olderOne 47 = .ok (.ireturn, 1) := by decide +kernel
theorem dX10_speakers_0 : decode cX10_speakers 0 = .ok (.iconst 0, 1) := by decide +kernel
theorem dX10_speakers_1 : decode cX10_speakers 1 = .ok (.istore_n 1, 1) := by decide +kernel
theorem dX10_speakers_2 : decode cX10_speakers 2 = .ok (.iconst 0, 1) := by decide +kernel
theorem dX10_speakers_3 : decode cX10_speakers 3 = .ok (.istore_n 2, 1) := by decide +kernel
theorem dX10_speakers_4 : decode cX10_speakers 4 = .ok (.iload_n 2, 1) := by decide +kernel
theorem dX10_speakers_5 : decode cX10_speakers 5 = .ok (.aload_n 0, 1) := by decide +kernel
theorem dX10_speakers_6 : decode cX10_speakers 6 = .ok (.iconst 5, 1) := by decide +kernel
theorem dX10_speakers_7 : decode cX10_speakers 7 = .ok (.iaload, 1) := by decide +kernel
theorem dX10_speakers_8 : decode cX10_speakers 8 = .ok (.if_icmp .ge 22, 3) := by decide +kernel
theorem dX10_speakers_11 : decode cX10_speakers 11 = .ok (.aload_n 0, 1) := by decide +kernel
theorem dX10_speakers_12 : decode cX10_speakers 12 = .ok (.iload_n 2, 1) := by decide +kernel
theorem dX10_speakers_13 : decode cX10_speakers 13 = .ok (.iconst 4, 1) := by decide +kernel
theorem dX10_speakers_14 : decode cX10_speakers 14 = .ok (.invokestatic 66, 3) := by decide +kernel
theorem dX10_speakers_17 : decode cX10_speakers 17 = .ok (.iaload, 1) := by decide +kernel
theorem dX10_speakers_18 : decode cX10_speakers 18 = .ok (.ifCond .le 6, 3) := by decide +kernel
theorem dX10_speakers_21 : decode cX10_speakers 21 = .ok (.iinc 1 1, 3) := by decide +kernel
theorem dX10_speakers_24 : decode cX10_speakers 24 = .ok (.iinc 2 1, 3) := by decide +kernel
theorem dX10_speakers_27 : decode cX10_speakers 27 = .ok (.goto (-23), 3) := by decide +kernel
theorem dX10_speakers_30 : decode cX10_speakers 30 = .ok (.iload_n 1, 1) := by decide +kernel
theorem dX10_speakers_31 : decode cX10_speakers 31 = .ok (.ireturn, 1) := by decide +kernel
theorem dX10_elects_0 : decode cX10_elects 0 = .ok (.aload_n 0, 1) := by decide +kernel
theorem dX10_elects_1 : decode cX10_elects 1 = .ok (.invokestatic 110, 3) := by decide +kernel
theorem dX10_elects_4 : decode cX10_elects 4 = .ok (.istore_n 1, 1) := by decide +kernel
theorem dX10_elects_5 : decode cX10_elects 5 = .ok (.iload_n 1, 1) := by decide +kernel
theorem dX10_elects_6 : decode cX10_elects 6 = .ok (.ifCond .ge 4, 3) := by decide +kernel
theorem dX10_elects_9 : decode cX10_elects 9 = .ok (.return_, 1) := by decide +kernel
theorem dX10_elects_10 : decode cX10_elects 10 = .ok (.aload_n 0, 1) := by decide +kernel
theorem dX10_elects_11 : decode cX10_elects 11 = .ok (.iload_n 1, 1) := by decide +kernel
theorem dX10_elects_12 : decode cX10_elects 12 = .ok (.invokestatic 43, 3) := by decide +kernel
theorem dX10_elects_15 : decode cX10_elects 15 = .ok (.istore_n 2, 1) := by decide +kernel
theorem dX10_elects_16 : decode cX10_elects 16 = .ok (.aload_n 0, 1) := by decide +kernel
theorem dX10_elects_17 : decode cX10_elects 17 = .ok (.bipush 12, 2) := by decide +kernel
theorem dX10_elects_19 : decode cX10_elects 19 = .ok (.dup2, 1) := by decide +kernel
theorem dX10_elects_20 : decode cX10_elects 20 = .ok (.iaload, 1) := by decide +kernel
theorem dX10_elects_21 : decode cX10_elects 21 = .ok (.iconst 1, 1) := by decide +kernel
theorem dX10_elects_22 : decode cX10_elects 22 = .ok (.iadd, 1) := by decide +kernel
theorem dX10_elects_23 : decode cX10_elects 23 = .ok (.iastore, 1) := by decide +kernel
theorem dX10_elects_24 : decode cX10_elects 24 = .ok (.aload_n 0, 1) := by decide +kernel
theorem dX10_elects_25 : decode cX10_elects 25 = .ok (.bipush 6, 2) := by decide +kernel
theorem dX10_elects_27 : decode cX10_elects 27 = .ok (.iconst 0, 1) := by decide +kernel
theorem dX10_elects_28 : decode cX10_elects 28 = .ok (.iastore, 1) := by decide +kernel
theorem dX10_elects_29 : decode cX10_elects 29 = .ok (.aload_n 0, 1) := by decide +kernel
theorem dX10_elects_30 : decode cX10_elects 30 = .ok (.iconst 4, 1) := by decide +kernel
theorem dX10_elects_31 : decode cX10_elects 31 = .ok (.iload_n 1, 1) := by decide +kernel
theorem dX10_elects_32 : decode cX10_elects 32 = .ok (.iload_n 2, 1) := by decide +kernel
theorem dX10_elects_33 : decode cX10_elects 33 = .ok (.invokestatic 88, 3) := by decide +kernel
theorem dX10_elects_36 : decode cX10_elects 36 = .ok (.return_, 1) := by decide +kernel
theorem dX10_newDay_0 : decode cX10_newDay 0 = .ok (.iconst 0, 1) := by decide +kernel
theorem dX10_newDay_1 : decode cX10_newDay 1 = .ok (.istore_n 1, 1) := by decide +kernel
theorem dX10_newDay_2 : decode cX10_newDay 2 = .ok (.iload_n 1, 1) := by decide +kernel
theorem dX10_newDay_3 : decode cX10_newDay 3 = .ok (.aload_n 0, 1) := by decide +kernel
theorem dX10_newDay_4 : decode cX10_newDay 4 = .ok (.iconst 4, 1) := by decide +kernel
theorem dX10_newDay_5 : decode cX10_newDay 5 = .ok (.iaload, 1) := by decide +kernel
theorem dX10_newDay_6 : decode cX10_newDay 6 = .ok (.if_icmp .ge 17, 3) := by decide +kernel
theorem dX10_newDay_9 : decode cX10_newDay 9 = .ok (.aload_n 0, 1) := by decide +kernel
theorem dX10_newDay_10 : decode cX10_newDay 10 = .ok (.iload_n 1, 1) := by decide +kernel
theorem dX10_newDay_11 : decode cX10_newDay 11 = .ok (.iconst 3, 1) := by decide +kernel
theorem dX10_newDay_12 : decode cX10_newDay 12 = .ok (.invokestatic 54, 3) := by decide +kernel
theorem dX10_newDay_15 : decode cX10_newDay 15 = .ok (.iconst 0, 1) := by decide +kernel
theorem dX10_newDay_16 : decode cX10_newDay 16 = .ok (.iastore, 1) := by decide +kernel
theorem dX10_newDay_17 : decode cX10_newDay 17 = .ok (.iinc 1 1, 3) := by decide +kernel
theorem dX10_newDay_20 : decode cX10_newDay 20 = .ok (.goto (-18), 3) := by decide +kernel
theorem dX10_newDay_23 : decode cX10_newDay 23 = .ok (.return_, 1) := by decide +kernel
theorem dX10_minutes_0 : decode cX10_minutes 0 = .ok (.aload_n 0, 1) := by decide +kernel
theorem dX10_minutes_1 : decode cX10_minutes 1 = .ok (.iconst 3, 1) := by decide +kernel
theorem dX10_minutes_2 : decode cX10_minutes 2 = .ok (.dup2, 1) := by decide +kernel
theorem dX10_minutes_3 : decode cX10_minutes 3 = .ok (.iaload, 1) := by decide +kernel
theorem dX10_minutes_4 : decode cX10_minutes 4 = .ok (.iconst 1, 1) := by decide +kernel
theorem dX10_minutes_5 : decode cX10_minutes 5 = .ok (.iadd, 1) := by decide +kernel
theorem dX10_minutes_6 : decode cX10_minutes 6 = .ok (.iastore, 1) := by decide +kernel
theorem dX10_minutes_7 : decode cX10_minutes 7 = .ok (.aload_n 0, 1) := by decide +kernel
theorem dX10_minutes_8 : decode cX10_minutes 8 = .ok (.iconst 3, 1) := by decide +kernel
theorem dX10_minutes_9 : decode cX10_minutes 9 = .ok (.iaload, 1) := by decide +kernel
theorem dX10_minutes_10 : decode cX10_minutes 10 = .ok (.bipush 60, 2) := by decide +kernel
theorem dX10_minutes_12 : decode cX10_minutes 12 = .ok (.irem, 1) := by decide +kernel
theorem dX10_minutes_13 : decode cX10_minutes 13 = .ok (.ifCond .ne 7, 3) := by decide +kernel
theorem dX10_minutes_16 : decode cX10_minutes 16 = .ok (.aload_n 0, 1) := by decide +kernel
theorem dX10_minutes_17 : decode cX10_minutes 17 = .ok (.invokestatic 114, 3) := by decide +kernel
theorem dX10_minutes_20 : decode cX10_minutes 20 = .ok (.iconst 0, 1) := by decide +kernel
theorem dX10_minutes_21 : decode cX10_minutes 21 = .ok (.istore_n 1, 1) := by decide +kernel
theorem dX10_minutes_22 : decode cX10_minutes 22 = .ok (.iload_n 1, 1) := by decide +kernel
theorem dX10_minutes_23 : decode cX10_minutes 23 = .ok (.aload_n 0, 1) := by decide +kernel
theorem dX10_minutes_24 : decode cX10_minutes 24 = .ok (.iconst 5, 1) := by decide +kernel
theorem dX10_minutes_25 : decode cX10_minutes 25 = .ok (.iaload, 1) := by decide +kernel
theorem dX10_minutes_26 : decode cX10_minutes 26 = .ok (.if_icmp .ge 14, 3) := by decide +kernel
theorem dX10_minutes_29 : decode cX10_minutes 29 = .ok (.aload_n 0, 1) := by decide +kernel
theorem dX10_minutes_30 : decode cX10_minutes 30 = .ok (.iload_n 1, 1) := by decide +kernel
theorem dX10_minutes_31 : decode cX10_minutes 31 = .ok (.invokestatic 118, 3) := by decide +kernel
theorem dX10_minutes_34 : decode cX10_minutes 34 = .ok (.iinc 1 1, 3) := by decide +kernel
theorem dX10_minutes_37 : decode cX10_minutes 37 = .ok (.goto (-15), 3) := by decide +kernel
theorem dX10_minutes_40 : decode cX10_minutes 40 = .ok (.aload_n 0, 1) := by decide +kernel
theorem dX10_minutes_41 : decode cX10_minutes 41 = .ok (.invokestatic 121, 3) := by decide +kernel
theorem dX10_minutes_44 : decode cX10_minutes 44 = .ok (.istore_n 1, 1) := by decide +kernel
theorem dX10_minutes_45 : decode cX10_minutes 45 = .ok (.iload_n 1, 1) := by decide +kernel
theorem dX10_minutes_46 : decode cX10_minutes 46 = .ok (.ifCond .lt 16, 3) := by decide +kernel
theorem dX10_minutes_49 : decode cX10_minutes 49 = .ok (.aload_n 0, 1) := by decide +kernel
theorem dX10_minutes_50 : decode cX10_minutes 50 = .ok (.iload_n 1, 1) := by decide +kernel
theorem dX10_minutes_51 : decode cX10_minutes 51 = .ok (.invokestatic 124, 3) := by decide +kernel
theorem dX10_minutes_54 : decode cX10_minutes 54 = .ok (.aload_n 0, 1) := by decide +kernel
theorem dX10_minutes_55 : decode cX10_minutes 55 = .ok (.invokestatic 121, 3) := by decide +kernel
theorem dX10_minutes_58 : decode cX10_minutes 58 = .ok (.istore_n 1, 1) := by decide +kernel
theorem dX10_minutes_59 : decode cX10_minutes 59 = .ok (.goto (-14), 3) := by decide +kernel
theorem dX10_minutes_62 : decode cX10_minutes 62 = .ok (.aload_n 0, 1) := by decide +kernel
theorem dX10_minutes_63 : decode cX10_minutes 63 = .ok (.invokestatic 127, 3) := by decide +kernel
theorem dX10_minutes_66 : decode cX10_minutes 66 = .ok (.iconst 1, 1) := by decide +kernel
theorem dX10_minutes_67 : decode cX10_minutes 67 = .ok (.if_icmp .le 11, 3) := by decide +kernel
theorem dX10_minutes_70 : decode cX10_minutes 70 = .ok (.aload_n 0, 1) := by decide +kernel
theorem dX10_minutes_71 : decode cX10_minutes 71 = .ok (.bipush 15, 2) := by decide +kernel
theorem dX10_minutes_73 : decode cX10_minutes 73 = .ok (.dup2, 1) := by decide +kernel
theorem dX10_minutes_74 : decode cX10_minutes 74 = .ok (.iaload, 1) := by decide +kernel
theorem dX10_minutes_75 : decode cX10_minutes 75 = .ok (.iconst 1, 1) := by decide +kernel
theorem dX10_minutes_76 : decode cX10_minutes 76 = .ok (.iadd, 1) := by decide +kernel
theorem dX10_minutes_77 : decode cX10_minutes 77 = .ok (.iastore, 1) := by decide +kernel
theorem dX10_minutes_78 : decode cX10_minutes 78 = .ok (.aload_n 0, 1) := by decide +kernel
theorem dX10_minutes_79 : decode cX10_minutes 79 = .ok (.bipush 6, 2) := by decide +kernel
theorem dX10_minutes_81 : decode cX10_minutes 81 = .ok (.aload_n 0, 1) := by decide +kernel
theorem dX10_minutes_82 : decode cX10_minutes 82 = .ok (.iconst 5, 1) := by decide +kernel
theorem dX10_minutes_83 : decode cX10_minutes 83 = .ok (.iaload, 1) := by decide +kernel
theorem dX10_minutes_84 : decode cX10_minutes 84 = .ok (.ifCond .ne 12, 3) := by decide +kernel
theorem dX10_minutes_87 : decode cX10_minutes 87 = .ok (.aload_n 0, 1) := by decide +kernel
theorem dX10_minutes_88 : decode cX10_minutes 88 = .ok (.bipush 6, 2) := by decide +kernel
theorem dX10_minutes_90 : decode cX10_minutes 90 = .ok (.iaload, 1) := by decide +kernel
theorem dX10_minutes_91 : decode cX10_minutes 91 = .ok (.iconst 1, 1) := by decide +kernel
theorem dX10_minutes_92 : decode cX10_minutes 92 = .ok (.iadd, 1) := by decide +kernel
theorem dX10_minutes_93 : decode cX10_minutes 93 = .ok (.goto 4, 3) := by decide +kernel
theorem dX10_minutes_96 : decode cX10_minutes 96 = .ok (.iconst 0, 1) := by decide +kernel
theorem dX10_minutes_97 : decode cX10_minutes 97 = .ok (.iastore, 1) := by decide +kernel
theorem dX10_minutes_98 : decode cX10_minutes 98 = .ok (.aload_n 0, 1) := by decide +kernel
theorem dX10_minutes_99 : decode cX10_minutes 99 = .ok (.bipush 6, 2) := by decide +kernel
theorem dX10_minutes_101 : decode cX10_minutes 101 = .ok (.iaload, 1) := by decide +kernel
theorem dX10_minutes_102 : decode cX10_minutes 102 = .ok (.aload_n 0, 1) := by decide +kernel
theorem dX10_minutes_103 : decode cX10_minutes 103 = .ok (.iconst 1, 1) := by decide +kernel
theorem dX10_minutes_104 : decode cX10_minutes 104 = .ok (.iaload, 1) := by decide +kernel
theorem dX10_minutes_105 : decode cX10_minutes 105 = .ok (.if_icmp .lt 7, 3) := by decide +kernel
theorem dX10_minutes_108 : decode cX10_minutes 108 = .ok (.aload_n 0, 1) := by decide +kernel
theorem dX10_minutes_109 : decode cX10_minutes 109 = .ok (.invokestatic 130, 3) := by decide +kernel
theorem dX10_minutes_112 : decode cX10_minutes 112 = .ok (.return_, 1) := by decide +kernel
theorem dX10_minutesMany_0 : decode cX10_minutesMany 0 = .ok (.iconst 0, 1) := by decide +kernel
theorem dX10_minutesMany_1 : decode cX10_minutesMany 1 = .ok (.istore_n 2, 1) := by decide +kernel
theorem dX10_minutesMany_2 : decode cX10_minutesMany 2 = .ok (.iload_n 2, 1) := by decide +kernel
theorem dX10_minutesMany_3 : decode cX10_minutesMany 3 = .ok (.iload_n 1, 1) := by decide +kernel
theorem dX10_minutesMany_4 : decode cX10_minutesMany 4 = .ok (.if_icmp .ge 13, 3) := by decide +kernel
theorem dX10_minutesMany_7 : decode cX10_minutesMany 7 = .ok (.aload_n 0, 1) := by decide +kernel
theorem dX10_minutesMany_8 : decode cX10_minutesMany 8 = .ok (.invokestatic 133, 3) := by decide +kernel
theorem dX10_minutesMany_11 : decode cX10_minutesMany 11 = .ok (.iinc 2 1, 3) := by decide +kernel
theorem dX10_minutesMany_14 : decode cX10_minutesMany 14 = .ok (.goto (-12), 3) := by decide +kernel
theorem dX10_minutesMany_17 : decode cX10_minutesMany 17 = .ok (.return_, 1) := by decide +kernel
theorem dX10_loses_0 : decode cX10_loses 0 = .ok (.aload_n 0, 1) := by decide +kernel
theorem dX10_loses_1 : decode cX10_loses 1 = .ok (.bipush 14, 2) := by decide +kernel
theorem dX10_loses_3 : decode cX10_loses 3 = .ok (.dup2, 1) := by decide +kernel
theorem dX10_loses_4 : decode cX10_loses 4 = .ok (.iaload, 1) := by decide +kernel
theorem dX10_loses_5 : decode cX10_loses 5 = .ok (.iconst 1, 1) := by decide +kernel
theorem dX10_loses_6 : decode cX10_loses 6 = .ok (.iadd, 1) := by decide +kernel
theorem dX10_loses_7 : decode cX10_loses 7 = .ok (.iastore, 1) := by decide +kernel
theorem dX10_loses_8 : decode cX10_loses 8 = .ok (.aload_n 0, 1) := by decide +kernel
theorem dX10_loses_9 : decode cX10_loses 9 = .ok (.iconst 5, 1) := by decide +kernel
theorem dX10_loses_10 : decode cX10_loses 10 = .ok (.aload_n 0, 1) := by decide +kernel
theorem dX10_loses_11 : decode cX10_loses 11 = .ok (.iload_n 1, 1) := by decide +kernel
theorem dX10_loses_12 : decode cX10_loses 12 = .ok (.iconst 0, 1) := by decide +kernel
theorem dX10_loses_13 : decode cX10_loses 13 = .ok (.invokestatic 66, 3) := by decide +kernel
theorem dX10_loses_16 : decode cX10_loses 16 = .ok (.iaload, 1) := by decide +kernel
theorem dX10_loses_17 : decode cX10_loses 17 = .ok (.aload_n 0, 1) := by decide +kernel
theorem dX10_loses_18 : decode cX10_loses 18 = .ok (.iload_n 1, 1) := by decide +kernel
theorem dX10_loses_19 : decode cX10_loses 19 = .ok (.iconst 1, 1) := by decide +kernel
theorem dX10_loses_20 : decode cX10_loses 20 = .ok (.invokestatic 66, 3) := by decide +kernel
theorem dX10_loses_23 : decode cX10_loses 23 = .ok (.iaload, 1) := by decide +kernel
theorem dX10_loses_24 : decode cX10_loses 24 = .ok (.invokestatic 88, 3) := by decide +kernel
theorem dX10_loses_27 : decode cX10_loses 27 = .ok (.aload_n 0, 1) := by decide +kernel
theorem dX10_loses_28 : decode cX10_loses 28 = .ok (.iload_n 1, 1) := by decide +kernel
theorem dX10_loses_29 : decode cX10_loses 29 = .ok (.invokestatic 104, 3) := by decide +kernel
theorem dX10_loses_32 : decode cX10_loses 32 = .ok (.return_, 1) := by decide +kernel
theorem dX10_shuts_0 : decode cX10_shuts 0 = .ok (.iconst 0, 1) := by decide +kernel
theorem dX10_shuts_1 : decode cX10_shuts 1 = .ok (.istore_n 3, 1) := by decide +kernel
theorem dX10_shuts_2 : decode cX10_shuts 2 = .ok (.aload_n 0, 1) := by decide +kernel
theorem dX10_shuts_3 : decode cX10_shuts 3 = .ok (.iload_n 1, 1) := by decide +kernel
theorem dX10_shuts_4 : decode cX10_shuts 4 = .ok (.iconst 2, 1) := by decide +kernel
theorem dX10_shuts_5 : decode cX10_shuts 5 = .ok (.invokestatic 54, 3) := by decide +kernel
theorem dX10_shuts_8 : decode cX10_shuts 8 = .ok (.iload_n 2, 1) := by decide +kernel
theorem dX10_shuts_9 : decode cX10_shuts 9 = .ok (.iastore, 1) := by decide +kernel
theorem dX10_shuts_10 : decode cX10_shuts 10 = .ok (.aload_n 0, 1) := by decide +kernel
theorem dX10_shuts_11 : decode cX10_shuts 11 = .ok (.bipush 7, 2) := by decide +kernel
theorem dX10_shuts_13 : decode cX10_shuts 13 = .ok (.iload_n 1, 1) := by decide +kernel
theorem dX10_shuts_14 : decode cX10_shuts 14 = .ok (.iload_n 2, 1) := by decide +kernel
theorem dX10_shuts_15 : decode cX10_shuts 15 = .ok (.invokestatic 88, 3) := by decide +kernel
theorem dX10_shuts_18 : decode cX10_shuts 18 = .ok (.aload_n 0, 1) := by decide +kernel
theorem dX10_shuts_19 : decode cX10_shuts 19 = .ok (.iload_n 1, 1) := by decide +kernel
theorem dX10_shuts_20 : decode cX10_shuts 20 = .ok (.iconst 0, 1) := by decide +kernel
theorem dX10_shuts_21 : decode cX10_shuts 21 = .ok (.invokestatic 107, 3) := by decide +kernel
theorem dX10_shuts_24 : decode cX10_shuts 24 = .ok (.istore 4, 2) := by decide +kernel
theorem dX10_shuts_26 : decode cX10_shuts 26 = .ok (.iload 4, 2) := by decide +kernel
theorem dX10_shuts_28 : decode cX10_shuts 28 = .ok (.ifCond .lt 27, 3) := by decide +kernel
theorem dX10_shuts_31 : decode cX10_shuts 31 = .ok (.iload_n 2, 1) := by decide +kernel
theorem dX10_shuts_32 : decode cX10_shuts 32 = .ok (.ifCond .ne 23, 3) := by decide +kernel
theorem dX10_shuts_35 : decode cX10_shuts 35 = .ok (.aload_n 0, 1) := by decide +kernel
theorem dX10_shuts_36 : decode cX10_shuts 36 = .ok (.iload 4, 2) := by decide +kernel
theorem dX10_shuts_38 : decode cX10_shuts 38 = .ok (.invokestatic 136, 3) := by decide +kernel
theorem dX10_shuts_41 : decode cX10_shuts 41 = .ok (.iinc 3 1, 3) := by decide +kernel
theorem dX10_shuts_44 : decode cX10_shuts 44 = .ok (.aload_n 0, 1) := by decide +kernel
theorem dX10_shuts_45 : decode cX10_shuts 45 = .ok (.iload_n 1, 1) := by decide +kernel
theorem dX10_shuts_46 : decode cX10_shuts 46 = .ok (.iconst 0, 1) := by decide +kernel
theorem dX10_shuts_47 : decode cX10_shuts 47 = .ok (.invokestatic 107, 3) := by decide +kernel
theorem dX10_shuts_50 : decode cX10_shuts 50 = .ok (.istore 4, 2) := by decide +kernel
theorem dX10_shuts_52 : decode cX10_shuts 52 = .ok (.goto (-26), 3) := by decide +kernel
theorem dX10_shuts_55 : decode cX10_shuts 55 = .ok (.iload_n 3, 1) := by decide +kernel
theorem dX10_shuts_56 : decode cX10_shuts 56 = .ok (.ireturn, 1) := by decide +kernel
theorem dX10_append_0 : decode cX10_append 0 = .ok (.aload_n 0, 1) := by decide +kernel
theorem dX10_append_1 : decode cX10_append 1 = .ok (.getfield 139, 3) := by decide +kernel
theorem dX10_append_4 : decode cX10_append 4 = .ok (.bipush 20, 2) := by decide +kernel
theorem dX10_append_6 : decode cX10_append 6 = .ok (.iadd, 1) := by decide +kernel
theorem dX10_append_7 : decode cX10_append 7 = .ok (.sipush 1200, 3) := by decide +kernel
theorem dX10_append_10 : decode cX10_append 10 = .ok (.if_icmp .le 5, 3) := by decide +kernel
theorem dX10_append_13 : decode cX10_append 13 = .ok (.iconst (-1), 1) := by decide +kernel
theorem dX10_append_14 : decode cX10_append 14 = .ok (.ireturn, 1) := by decide +kernel
theorem dX10_append_15 : decode cX10_append 15 = .ok (.iconst 0, 1) := by decide +kernel
theorem dX10_append_16 : decode cX10_append 16 = .ok (.istore 6, 2) := by decide +kernel
theorem dX10_append_18 : decode cX10_append 18 = .ok (.iload 6, 2) := by decide +kernel
theorem dX10_append_20 : decode cX10_append 20 = .ok (.bipush 20, 2) := by decide +kernel
theorem dX10_append_22 : decode cX10_append 22 = .ok (.if_icmp .ge 93, 3) := by decide +kernel
theorem dX10_append_25 : decode cX10_append 25 = .ok (.iload 6, 2) := by decide +kernel
theorem dX10_append_27 : decode cX10_append 27 = .ok (.iconst 4, 1) := by decide +kernel
theorem dX10_append_28 : decode cX10_append 28 = .ok (.if_icmp .ge 7, 3) := by decide +kernel
theorem dX10_append_31 : decode cX10_append 31 = .ok (.iload_n 1, 1) := by decide +kernel
theorem dX10_append_32 : decode cX10_append 32 = .ok (.goto 39, 3) := by decide +kernel
theorem dX10_append_35 : decode cX10_append 35 = .ok (.iload 6, 2) := by decide +kernel
theorem dX10_append_37 : decode cX10_append 37 = .ok (.bipush 8, 2) := by decide +kernel
theorem dX10_append_39 : decode cX10_append 39 = .ok (.if_icmp .ge 7, 3) := by decide +kernel
theorem dX10_append_42 : decode cX10_append 42 = .ok (.iload_n 2, 1) := by decide +kernel
theorem dX10_append_43 : decode cX10_append 43 = .ok (.goto 28, 3) := by decide +kernel
theorem dX10_append_46 : decode cX10_append 46 = .ok (.iload 6, 2) := by decide +kernel
theorem dX10_append_48 : decode cX10_append 48 = .ok (.bipush 12, 2) := by decide +kernel
theorem dX10_append_50 : decode cX10_append 50 = .ok (.if_icmp .ge 7, 3) := by decide +kernel
theorem dX10_append_53 : decode cX10_append 53 = .ok (.iload_n 3, 1) := by decide +kernel
theorem dX10_append_54 : decode cX10_append 54 = .ok (.goto 17, 3) := by decide +kernel
theorem dX10_append_57 : decode cX10_append 57 = .ok (.iload 6, 2) := by decide +kernel
theorem dX10_append_59 : decode cX10_append 59 = .ok (.bipush 16, 2) := by decide +kernel
theorem dX10_append_61 : decode cX10_append 61 = .ok (.if_icmp .ge 8, 3) := by decide +kernel
theorem dX10_append_64 : decode cX10_append 64 = .ok (.iload 4, 2) := by decide +kernel
theorem dX10_append_66 : decode cX10_append 66 = .ok (.goto 5, 3) := by decide +kernel
theorem dX10_append_69 : decode cX10_append 69 = .ok (.iload 5, 2) := by decide +kernel
theorem dX10_append_71 : decode cX10_append 71 = .ok (.istore 7, 2) := by decide +kernel
theorem dX10_append_73 : decode cX10_append 73 = .ok (.aload_n 0, 1) := by decide +kernel
theorem dX10_append_74 : decode cX10_append 74 = .ok (.getfield 29, 3) := by decide +kernel
theorem dX10_append_77 : decode cX10_append 77 = .ok (.aload_n 0, 1) := by decide +kernel
theorem dX10_append_78 : decode cX10_append 78 = .ok (.getfield 139, 3) := by decide +kernel
theorem dX10_append_81 : decode cX10_append 81 = .ok (.iload 7, 2) := by decide +kernel
theorem dX10_append_83 : decode cX10_append 83 = .ok (.bipush 24, 2) := by decide +kernel
theorem dX10_append_85 : decode cX10_append 85 = .ok (.bipush 8, 2) := by decide +kernel
theorem dX10_append_87 : decode cX10_append 87 = .ok (.iload 6, 2) := by decide +kernel
theorem dX10_append_89 : decode cX10_append 89 = .ok (.iconst 4, 1) := by decide +kernel
theorem dX10_append_90 : decode cX10_append 90 = .ok (.irem, 1) := by decide +kernel
theorem dX10_append_91 : decode cX10_append 91 = .ok (.imul, 1) := by decide +kernel
theorem dX10_append_92 : decode cX10_append 92 = .ok (.isub, 1) := by decide +kernel
theorem dX10_append_93 : decode cX10_append 93 = .ok (.ishr, 1) := by decide +kernel
theorem dX10_append_94 : decode cX10_append 94 = .ok (.sipush 255, 3) := by decide +kernel
theorem dX10_append_97 : decode cX10_append 97 = .ok (.iand, 1) := by decide +kernel
theorem dX10_append_98 : decode cX10_append 98 = .ok (.iastore, 1) := by decide +kernel
theorem dX10_append_99 : decode cX10_append 99 = .ok (.aload_n 0, 1) := by decide +kernel
theorem dX10_append_100 : decode cX10_append 100 = .ok (.dup, 1) := by decide +kernel
theorem dX10_append_101 : decode cX10_append 101 = .ok (.getfield 139, 3) := by decide +kernel
theorem dX10_append_104 : decode cX10_append 104 = .ok (.iconst 1, 1) := by decide +kernel
theorem dX10_append_105 : decode cX10_append 105 = .ok (.iadd, 1) := by decide +kernel
theorem dX10_append_106 : decode cX10_append 106 = .ok (.putfield 139, 3) := by decide +kernel
theorem dX10_append_109 : decode cX10_append 109 = .ok (.iinc 6 1, 3) := by decide +kernel
theorem dX10_append_112 : decode cX10_append 112 = .ok (.goto (-94), 3) := by decide +kernel
theorem dX10_append_115 : decode cX10_append 115 = .ok (.aload_n 0, 1) := by decide +kernel
theorem dX10_append_116 : decode cX10_append 116 = .ok (.getfield 139, 3) := by decide +kernel
theorem dX10_append_119 : decode cX10_append 119 = .ok (.ireturn, 1) := by decide +kernel
theorem dX10_truncate_0 : decode cX10_truncate 0 = .ok (.iload_n 1, 1) := by decide +kernel
theorem dX10_truncate_1 : decode cX10_truncate 1 = .ok (.ifCond .lt 11, 3) := by decide +kernel
theorem dX10_truncate_4 : decode cX10_truncate 4 = .ok (.iload_n 1, 1) := by decide +kernel
theorem dX10_truncate_5 : decode cX10_truncate 5 = .ok (.aload_n 0, 1) := by decide +kernel
theorem dX10_truncate_6 : decode cX10_truncate 6 = .ok (.getfield 139, 3) := by decide +kernel
theorem dX10_truncate_9 : decode cX10_truncate 9 = .ok (.if_icmp .le 5, 3) := by decide +kernel
theorem dX10_truncate_12 : decode cX10_truncate 12 = .ok (.iconst (-1), 1) := by decide +kernel
theorem dX10_truncate_13 : decode cX10_truncate 13 = .ok (.ireturn, 1) := by decide +kernel
theorem dX10_truncate_14 : decode cX10_truncate 14 = .ok (.aload_n 0, 1) := by decide +kernel
theorem dX10_truncate_15 : decode cX10_truncate 15 = .ok (.dup, 1) := by decide +kernel
theorem dX10_truncate_16 : decode cX10_truncate 16 = .ok (.getfield 139, 3) := by decide +kernel
theorem dX10_truncate_19 : decode cX10_truncate 19 = .ok (.iload_n 1, 1) := by decide +kernel
theorem dX10_truncate_20 : decode cX10_truncate 20 = .ok (.isub, 1) := by decide +kernel
theorem dX10_truncate_21 : decode cX10_truncate 21 = .ok (.putfield 139, 3) := by decide +kernel
theorem dX10_truncate_24 : decode cX10_truncate 24 = .ok (.aload_n 0, 1) := by decide +kernel
theorem dX10_truncate_25 : decode cX10_truncate 25 = .ok (.getfield 139, 3) := by decide +kernel
theorem dX10_truncate_28 : decode cX10_truncate 28 = .ok (.ireturn, 1) := by decide +kernel
theorem dX10_errorPosition_0 : decode cX10_errorPosition 0 = .ok (.aload_n 0, 1) := by decide +kernel
theorem dX10_errorPosition_1 : decode cX10_errorPosition 1 = .ok (.getfield 32, 3) := by decide +kernel
theorem dX10_errorPosition_4 : decode cX10_errorPosition 4 = .ok (.ireturn, 1) := by decide +kernel
theorem dX10_isSmall_0 : decode cX10_isSmall 0 = .ok (.iload_n 1, 1) := by decide +kernel
theorem dX10_isSmall_1 : decode cX10_isSmall 1 = .ok (.aload_n 0, 1) := by decide +kernel
theorem dX10_isSmall_2 : decode cX10_isSmall 2 = .ok (.getfield 139, 3) := by decide +kernel
theorem dX10_isSmall_5 : decode cX10_isSmall 5 = .ok (.if_icmp .ge 29, 3) := by decide +kernel
theorem dX10_isSmall_8 : decode cX10_isSmall 8 = .ok (.aload_n 0, 1) := by decide +kernel
theorem dX10_isSmall_9 : decode cX10_isSmall 9 = .ok (.getfield 29, 3) := by decide +kernel
theorem dX10_isSmall_12 : decode cX10_isSmall 12 = .ok (.iload_n 1, 1) := by decide +kernel
theorem dX10_isSmall_13 : decode cX10_isSmall 13 = .ok (.iaload, 1) := by decide +kernel
theorem dX10_isSmall_14 : decode cX10_isSmall 14 = .ok (.bipush 97, 2) := by decide +kernel
theorem dX10_isSmall_16 : decode cX10_isSmall 16 = .ok (.if_icmp .lt 18, 3) := by decide +kernel
theorem dX10_isSmall_19 : decode cX10_isSmall 19 = .ok (.aload_n 0, 1) := by decide +kernel
theorem dX10_isSmall_20 : decode cX10_isSmall 20 = .ok (.getfield 29, 3) := by decide +kernel
theorem dX10_isSmall_23 : decode cX10_isSmall 23 = .ok (.iload_n 1, 1) := by decide +kernel
theorem dX10_isSmall_24 : decode cX10_isSmall 24 = .ok (.iaload, 1) := by decide +kernel
theorem dX10_isSmall_25 : decode cX10_isSmall 25 = .ok (.bipush 122, 2) := by decide +kernel
theorem dX10_isSmall_27 : decode cX10_isSmall 27 = .ok (.if_icmp .gt 7, 3) := by decide +kernel
theorem dX10_isSmall_30 : decode cX10_isSmall 30 = .ok (.iconst 1, 1) := by decide +kernel
theorem dX10_isSmall_31 : decode cX10_isSmall 31 = .ok (.goto 4, 3) := by decide +kernel
theorem dX10_isSmall_34 : decode cX10_isSmall 34 = .ok (.iconst 0, 1) := by decide +kernel
theorem dX10_isSmall_35 : decode cX10_isSmall 35 = .ok (.ireturn, 1) := by decide +kernel
theorem dX10_isDigit_0 : decode cX10_isDigit 0 = .ok (.iload_n 1, 1) := by decide +kernel
theorem dX10_isDigit_1 : decode cX10_isDigit 1 = .ok (.aload_n 0, 1) := by decide +kernel
theorem dX10_isDigit_2 : decode cX10_isDigit 2 = .ok (.getfield 139, 3) := by decide +kernel
theorem dX10_isDigit_5 : decode cX10_isDigit 5 = .ok (.if_icmp .ge 29, 3) := by decide +kernel
theorem dX10_isDigit_8 : decode cX10_isDigit 8 = .ok (.aload_n 0, 1) := by decide +kernel
theorem dX10_isDigit_9 : decode cX10_isDigit 9 = .ok (.getfield 29, 3) := by decide +kernel
theorem dX10_isDigit_12 : decode cX10_isDigit 12 = .ok (.iload_n 1, 1) := by decide +kernel
theorem dX10_isDigit_13 : decode cX10_isDigit 13 = .ok (.iaload, 1) := by decide +kernel
theorem dX10_isDigit_14 : decode cX10_isDigit 14 = .ok (.bipush 48, 2) := by decide +kernel
theorem dX10_isDigit_16 : decode cX10_isDigit 16 = .ok (.if_icmp .lt 18, 3) := by decide +kernel
theorem dX10_isDigit_19 : decode cX10_isDigit 19 = .ok (.aload_n 0, 1) := by decide +kernel
theorem dX10_isDigit_20 : decode cX10_isDigit 20 = .ok (.getfield 29, 3) := by decide +kernel
theorem dX10_isDigit_23 : decode cX10_isDigit 23 = .ok (.iload_n 1, 1) := by decide +kernel
theorem dX10_isDigit_24 : decode cX10_isDigit 24 = .ok (.iaload, 1) := by decide +kernel
theorem dX10_isDigit_25 : decode cX10_isDigit 25 = .ok (.bipush 57, 2) := by decide +kernel
theorem dX10_isDigit_27 : decode cX10_isDigit 27 = .ok (.if_icmp .gt 7, 3) := by decide +kernel
theorem dX10_isDigit_30 : decode cX10_isDigit 30 = .ok (.iconst 1, 1) := by decide +kernel
theorem dX10_isDigit_31 : decode cX10_isDigit 31 = .ok (.goto 4, 3) := by decide +kernel
theorem dX10_isDigit_34 : decode cX10_isDigit 34 = .ok (.iconst 0, 1) := by decide +kernel
theorem dX10_isDigit_35 : decode cX10_isDigit 35 = .ok (.ireturn, 1) := by decide +kernel
theorem dX10_next_0 : decode cX10_next 0 = .ok (.aload_n 0, 1) := by decide +kernel
theorem dX10_next_1 : decode cX10_next 1 = .ok (.getfield 142, 3) := by decide +kernel
theorem dX10_next_4 : decode cX10_next 4 = .ok (.aload_n 0, 1) := by decide +kernel
theorem dX10_next_5 : decode cX10_next 5 = .ok (.getfield 139, 3) := by decide +kernel
theorem dX10_next_8 : decode cX10_next 8 = .ok (.if_icmp .ge 44, 3) := by decide +kernel
theorem dX10_next_11 : decode cX10_next 11 = .ok (.aload_n 0, 1) := by decide +kernel
theorem dX10_next_12 : decode cX10_next 12 = .ok (.getfield 29, 3) := by decide +kernel
theorem dX10_next_15 : decode cX10_next 15 = .ok (.aload_n 0, 1) := by decide +kernel
theorem dX10_next_16 : decode cX10_next 16 = .ok (.getfield 142, 3) := by decide +kernel
theorem dX10_next_19 : decode cX10_next 19 = .ok (.iaload, 1) := by decide +kernel
theorem dX10_next_20 : decode cX10_next 20 = .ok (.bipush 32, 2) := by decide +kernel
theorem dX10_next_22 : decode cX10_next 22 = .ok (.if_icmp .eq 17, 3) := by decide +kernel
theorem dX10_next_25 : decode cX10_next 25 = .ok (.aload_n 0, 1) := by decide +kernel
theorem dX10_next_26 : decode cX10_next 26 = .ok (.getfield 29, 3) := by decide +kernel
theorem dX10_next_29 : decode cX10_next 29 = .ok (.aload_n 0, 1) := by decide +kernel
theorem dX10_next_30 : decode cX10_next 30 = .ok (.getfield 142, 3) := by decide +kernel
theorem dX10_next_33 : decode cX10_next 33 = .ok (.iaload, 1) := by decide +kernel
theorem dX10_next_34 : decode cX10_next 34 = .ok (.bipush 10, 2) := by decide +kernel
theorem dX10_next_36 : decode cX10_next 36 = .ok (.if_icmp .ne 16, 3) := by decide +kernel
theorem dX10_next_39 : decode cX10_next 39 = .ok (.aload_n 0, 1) := by decide +kernel
theorem dX10_next_40 : decode cX10_next 40 = .ok (.dup, 1) := by decide +kernel
theorem dX10_next_41 : decode cX10_next 41 = .ok (.getfield 142, 3) := by decide +kernel
theorem dX10_next_44 : decode cX10_next 44 = .ok (.iconst 1, 1) := by decide +kernel
theorem dX10_next_45 : decode cX10_next 45 = .ok (.iadd, 1) := by decide +kernel
theorem dX10_next_46 : decode cX10_next 46 = .ok (.putfield 142, 3) := by decide +kernel
theorem dX10_next_49 : decode cX10_next 49 = .ok (.goto (-49), 3) := by decide +kernel
theorem dX10_next_52 : decode cX10_next 52 = .ok (.aload_n 0, 1) := by decide +kernel
theorem dX10_next_53 : decode cX10_next 53 = .ok (.aload_n 0, 1) := by decide +kernel
theorem dX10_next_54 : decode cX10_next 54 = .ok (.getfield 142, 3) := by decide +kernel
theorem dX10_next_57 : decode cX10_next 57 = .ok (.putfield 145, 3) := by decide +kernel
theorem dX10_next_60 : decode cX10_next 60 = .ok (.aload_n 0, 1) := by decide +kernel
theorem dX10_next_61 : decode cX10_next 61 = .ok (.iconst 0, 1) := by decide +kernel
theorem dX10_next_62 : decode cX10_next 62 = .ok (.putfield 148, 3) := by decide +kernel
theorem dX10_next_65 : decode cX10_next 65 = .ok (.aload_n 0, 1) := by decide +kernel
theorem dX10_next_66 : decode cX10_next 66 = .ok (.getfield 142, 3) := by decide +kernel
theorem dX10_next_69 : decode cX10_next 69 = .ok (.aload_n 0, 1) := by decide +kernel
theorem dX10_next_70 : decode cX10_next 70 = .ok (.getfield 139, 3) := by decide +kernel
theorem dX10_next_73 : decode cX10_next 73 = .ok (.if_icmp .ne 11, 3) := by decide +kernel
theorem dX10_next_76 : decode cX10_next 76 = .ok (.aload_n 0, 1) := by decide +kernel
theorem dX10_next_77 : decode cX10_next 77 = .ok (.iconst 0, 1) := by decide +kernel
theorem dX10_next_78 : decode cX10_next 78 = .ok (.putfield 151, 3) := by decide +kernel
theorem dX10_next_81 : decode cX10_next 81 = .ok (.goto 72, 3) := by decide +kernel
theorem dX10_next_84 : decode cX10_next 84 = .ok (.aload_n 0, 1) := by decide +kernel
theorem dX10_next_85 : decode cX10_next 85 = .ok (.aload_n 0, 1) := by decide +kernel
theorem dX10_next_86 : decode cX10_next 86 = .ok (.getfield 142, 3) := by decide +kernel
theorem dX10_next_89 : decode cX10_next 89 = .ok (.invokevirtual 154, 3) := by decide +kernel
theorem dX10_next_92 : decode cX10_next 92 = .ok (.ifCond .eq 10, 3) := by decide +kernel
theorem dX10_next_95 : decode cX10_next 95 = .ok (.aload_n 0, 1) := by decide +kernel
theorem dX10_next_96 : decode cX10_next 96 = .ok (.invokevirtual 158, 3) := by decide +kernel
theorem dX10_next_99 : decode cX10_next 99 = .ok (.goto 54, 3) := by decide +kernel
theorem dX10_next_102 : decode cX10_next 102 = .ok (.aload_n 0, 1) := by decide +kernel
theorem dX10_next_103 : decode cX10_next 103 = .ok (.aload_n 0, 1) := by decide +kernel
theorem dX10_next_104 : decode cX10_next 104 = .ok (.getfield 142, 3) := by decide +kernel
theorem dX10_next_107 : decode cX10_next 107 = .ok (.invokevirtual 161, 3) := by decide +kernel
theorem dX10_next_110 : decode cX10_next 110 = .ok (.ifCond .eq 10, 3) := by decide +kernel
theorem dX10_next_113 : decode cX10_next 113 = .ok (.aload_n 0, 1) := by decide +kernel
theorem dX10_next_114 : decode cX10_next 114 = .ok (.invokevirtual 164, 3) := by decide +kernel
theorem dX10_next_117 : decode cX10_next 117 = .ok (.goto 36, 3) := by decide +kernel
theorem dX10_next_120 : decode cX10_next 120 = .ok (.aload_n 0, 1) := by decide +kernel
theorem dX10_next_121 : decode cX10_next 121 = .ok (.aload_n 0, 1) := by decide +kernel
theorem dX10_next_122 : decode cX10_next 122 = .ok (.getfield 29, 3) := by decide +kernel
theorem dX10_next_125 : decode cX10_next 125 = .ok (.aload_n 0, 1) := by decide +kernel
theorem dX10_next_126 : decode cX10_next 126 = .ok (.getfield 142, 3) := by decide +kernel
theorem dX10_next_129 : decode cX10_next 129 = .ok (.iaload, 1) := by decide +kernel
theorem dX10_next_130 : decode cX10_next 130 = .ok (.bipush 59, 2) := by decide +kernel
theorem dX10_next_132 : decode cX10_next 132 = .ok (.if_icmp .ne 7, 3) := by decide +kernel
theorem dX10_next_135 : decode cX10_next 135 = .ok (.iconst 3, 1) := by decide +kernel
theorem dX10_next_136 : decode cX10_next 136 = .ok (.goto 4, 3) := by decide +kernel
theorem dX10_next_139 : decode cX10_next 139 = .ok (.iconst 4, 1) := by decide +kernel
theorem dX10_next_140 : decode cX10_next 140 = .ok (.putfield 151, 3) := by decide +kernel
theorem dX10_next_143 : decode cX10_next 143 = .ok (.aload_n 0, 1) := by decide +kernel
theorem dX10_next_144 : decode cX10_next 144 = .ok (.dup, 1) := by decide +kernel
theorem dX10_next_145 : decode cX10_next 145 = .ok (.getfield 142, 3) := by decide +kernel
theorem dX10_next_148 : decode cX10_next 148 = .ok (.iconst 1, 1) := by decide +kernel
theorem dX10_next_149 : decode cX10_next 149 = .ok (.iadd, 1) := by decide +kernel
theorem dX10_next_150 : decode cX10_next 150 = .ok (.putfield 142, 3) := by decide +kernel
theorem dX10_next_153 : decode cX10_next 153 = .ok (.return_, 1) := by decide +kernel
theorem dX10_nextWord_0 : decode cX10_nextWord 0 = .ok (.aload_n 0, 1) := by decide +kernel
theorem dX10_nextWord_1 : decode cX10_nextWord 1 = .ok (.aload_n 0, 1) := by decide +kernel
theorem dX10_nextWord_2 : decode cX10_nextWord 2 = .ok (.getfield 142, 3) := by decide +kernel
theorem dX10_nextWord_5 : decode cX10_nextWord 5 = .ok (.invokevirtual 154, 3) := by decide +kernel
theorem dX10_nextWord_8 : decode cX10_nextWord 8 = .ok (.ifCond .eq 54, 3) := by decide +kernel
theorem dX10_nextWord_11 : decode cX10_nextWord 11 = .ok (.aload_n 0, 1) := by decide +kernel
theorem dX10_nextWord_12 : decode cX10_nextWord 12 = .ok (.getfield 142, 3) := by decide +kernel
theorem dX10_nextWord_15 : decode cX10_nextWord 15 = .ok (.aload_n 0, 1) := by decide +kernel
theorem dX10_nextWord_16 : decode cX10_nextWord 16 = .ok (.getfield 145, 3) := by decide +kernel
theorem dX10_nextWord_19 : decode cX10_nextWord 19 = .ok (.isub, 1) := by decide +kernel
theorem dX10_nextWord_20 : decode cX10_nextWord 20 = .ok (.bipush 6, 2) := by decide +kernel
theorem dX10_nextWord_22 : decode cX10_nextWord 22 = .ok (.if_icmp .ge 27, 3) := by decide +kernel
theorem dX10_nextWord_25 : decode cX10_nextWord 25 = .ok (.aload_n 0, 1) := by decide +kernel
theorem dX10_nextWord_26 : decode cX10_nextWord 26 = .ok (.bipush 27, 2) := by decide +kernel
theorem dX10_nextWord_28 : decode cX10_nextWord 28 = .ok (.aload_n 0, 1) := by decide +kernel
theorem dX10_nextWord_29 : decode cX10_nextWord 29 = .ok (.getfield 148, 3) := by decide +kernel
theorem dX10_nextWord_32 : decode cX10_nextWord 32 = .ok (.imul, 1) := by decide +kernel
theorem dX10_nextWord_33 : decode cX10_nextWord 33 = .ok (.aload_n 0, 1) := by decide +kernel
theorem dX10_nextWord_34 : decode cX10_nextWord 34 = .ok (.getfield 29, 3) := by decide +kernel
theorem dX10_nextWord_37 : decode cX10_nextWord 37 = .ok (.aload_n 0, 1) := by decide +kernel
theorem dX10_nextWord_38 : decode cX10_nextWord 38 = .ok (.getfield 142, 3) := by decide +kernel
theorem dX10_nextWord_41 : decode cX10_nextWord 41 = .ok (.iaload, 1) := by decide +kernel
theorem dX10_nextWord_42 : decode cX10_nextWord 42 = .ok (.iadd, 1) := by decide +kernel
theorem dX10_nextWord_43 : decode cX10_nextWord 43 = .ok (.bipush 96, 2) := by decide +kernel
theorem dX10_nextWord_45 : decode cX10_nextWord 45 = .ok (.isub, 1) := by decide +kernel
theorem dX10_nextWord_46 : decode cX10_nextWord 46 = .ok (.putfield 148, 3) := by decide +kernel
theorem dX10_nextWord_49 : decode cX10_nextWord 49 = .ok (.aload_n 0, 1) := by decide +kernel
theorem dX10_nextWord_50 : decode cX10_nextWord 50 = .ok (.dup, 1) := by decide +kernel
theorem dX10_nextWord_51 : decode cX10_nextWord 51 = .ok (.getfield 142, 3) := by decide +kernel
theorem dX10_nextWord_54 : decode cX10_nextWord 54 = .ok (.iconst 1, 1) := by decide +kernel
theorem dX10_nextWord_55 : decode cX10_nextWord 55 = .ok (.iadd, 1) := by decide +kernel
theorem dX10_nextWord_56 : decode cX10_nextWord 56 = .ok (.putfield 142, 3) := by decide +kernel
theorem dX10_nextWord_59 : decode cX10_nextWord 59 = .ok (.goto (-59), 3) := by decide +kernel
theorem dX10_nextWord_62 : decode cX10_nextWord 62 = .ok (.aload_n 0, 1) := by decide +kernel
theorem dX10_nextWord_63 : decode cX10_nextWord 63 = .ok (.aload_n 0, 1) := by decide +kernel
theorem dX10_nextWord_64 : decode cX10_nextWord 64 = .ok (.getfield 142, 3) := by decide +kernel
theorem dX10_nextWord_67 : decode cX10_nextWord 67 = .ok (.aload_n 0, 1) := by decide +kernel
theorem dX10_nextWord_68 : decode cX10_nextWord 68 = .ok (.getfield 145, 3) := by decide +kernel
theorem dX10_nextWord_71 : decode cX10_nextWord 71 = .ok (.isub, 1) := by decide +kernel
theorem dX10_nextWord_72 : decode cX10_nextWord 72 = .ok (.bipush 6, 2) := by decide +kernel
theorem dX10_nextWord_74 : decode cX10_nextWord 74 = .ok (.if_icmp .le 7, 3) := by decide +kernel
theorem dX10_nextWord_77 : decode cX10_nextWord 77 = .ok (.iconst 4, 1) := by decide +kernel
theorem dX10_nextWord_78 : decode cX10_nextWord 78 = .ok (.goto 4, 3) := by decide +kernel
theorem dX10_nextWord_81 : decode cX10_nextWord 81 = .ok (.iconst 1, 1) := by decide +kernel
theorem dX10_nextWord_82 : decode cX10_nextWord 82 = .ok (.putfield 151, 3) := by decide +kernel
theorem dX10_nextWord_85 : decode cX10_nextWord 85 = .ok (.return_, 1) := by decide +kernel
theorem dX10_nextNumber_0 : decode cX10_nextNumber 0 = .ok (.aload_n 0, 1) := by decide +kernel
theorem dX10_nextNumber_1 : decode cX10_nextNumber 1 = .ok (.aload_n 0, 1) := by decide +kernel
theorem dX10_nextNumber_2 : decode cX10_nextNumber 2 = .ok (.getfield 142, 3) := by decide +kernel
theorem dX10_nextNumber_5 : decode cX10_nextNumber 5 = .ok (.invokevirtual 161, 3) := by decide +kernel
theorem dX10_nextNumber_8 : decode cX10_nextNumber 8 = .ok (.ifCond .eq 53, 3) := by decide +kernel
theorem dX10_nextNumber_11 : decode cX10_nextNumber 11 = .ok (.aload_n 0, 1) := by decide +kernel
theorem dX10_nextNumber_12 : decode cX10_nextNumber 12 = .ok (.getfield 142, 3) := by decide +kernel
theorem dX10_nextNumber_15 : decode cX10_nextNumber 15 = .ok (.aload_n 0, 1) := by decide +kernel
theorem dX10_nextNumber_16 : decode cX10_nextNumber 16 = .ok (.getfield 145, 3) := by decide +kernel
theorem dX10_nextNumber_19 : decode cX10_nextNumber 19 = .ok (.isub, 1) := by decide +kernel
theorem dX10_nextNumber_20 : decode cX10_nextNumber 20 = .ok (.iconst 2, 1) := by decide +kernel
theorem dX10_nextNumber_21 : decode cX10_nextNumber 21 = .ok (.if_icmp .ge 27, 3) := by decide +kernel
theorem dX10_nextNumber_24 : decode cX10_nextNumber 24 = .ok (.aload_n 0, 1) := by decide +kernel
theorem dX10_nextNumber_25 : decode cX10_nextNumber 25 = .ok (.bipush 10, 2) := by decide +kernel
theorem dX10_nextNumber_27 : decode cX10_nextNumber 27 = .ok (.aload_n 0, 1) := by decide +kernel
theorem dX10_nextNumber_28 : decode cX10_nextNumber 28 = .ok (.getfield 148, 3) := by decide +kernel
theorem dX10_nextNumber_31 : decode cX10_nextNumber 31 = .ok (.imul, 1) := by decide +kernel
theorem dX10_nextNumber_32 : decode cX10_nextNumber 32 = .ok (.aload_n 0, 1) := by decide +kernel
theorem dX10_nextNumber_33 : decode cX10_nextNumber 33 = .ok (.getfield 29, 3) := by decide +kernel
theorem dX10_nextNumber_36 : decode cX10_nextNumber 36 = .ok (.aload_n 0, 1) := by decide +kernel
theorem dX10_nextNumber_37 : decode cX10_nextNumber 37 = .ok (.getfield 142, 3) := by decide +kernel
theorem dX10_nextNumber_40 : decode cX10_nextNumber 40 = .ok (.iaload, 1) := by decide +kernel
theorem dX10_nextNumber_41 : decode cX10_nextNumber 41 = .ok (.iadd, 1) := by decide +kernel
theorem dX10_nextNumber_42 : decode cX10_nextNumber 42 = .ok (.bipush 48, 2) := by decide +kernel
theorem dX10_nextNumber_44 : decode cX10_nextNumber 44 = .ok (.isub, 1) := by decide +kernel
theorem dX10_nextNumber_45 : decode cX10_nextNumber 45 = .ok (.putfield 148, 3) := by decide +kernel
theorem dX10_nextNumber_48 : decode cX10_nextNumber 48 = .ok (.aload_n 0, 1) := by decide +kernel
theorem dX10_nextNumber_49 : decode cX10_nextNumber 49 = .ok (.dup, 1) := by decide +kernel
theorem dX10_nextNumber_50 : decode cX10_nextNumber 50 = .ok (.getfield 142, 3) := by decide +kernel
theorem dX10_nextNumber_53 : decode cX10_nextNumber 53 = .ok (.iconst 1, 1) := by decide +kernel
theorem dX10_nextNumber_54 : decode cX10_nextNumber 54 = .ok (.iadd, 1) := by decide +kernel
theorem dX10_nextNumber_55 : decode cX10_nextNumber 55 = .ok (.putfield 142, 3) := by decide +kernel
theorem dX10_nextNumber_58 : decode cX10_nextNumber 58 = .ok (.goto (-58), 3) := by decide +kernel
theorem dX10_nextNumber_61 : decode cX10_nextNumber 61 = .ok (.aload_n 0, 1) := by decide +kernel
theorem dX10_nextNumber_62 : decode cX10_nextNumber 62 = .ok (.aload_n 0, 1) := by decide +kernel
theorem dX10_nextNumber_63 : decode cX10_nextNumber 63 = .ok (.getfield 142, 3) := by decide +kernel
theorem dX10_nextNumber_66 : decode cX10_nextNumber 66 = .ok (.aload_n 0, 1) := by decide +kernel
theorem dX10_nextNumber_67 : decode cX10_nextNumber 67 = .ok (.getfield 145, 3) := by decide +kernel
theorem dX10_nextNumber_70 : decode cX10_nextNumber 70 = .ok (.isub, 1) := by decide +kernel
theorem dX10_nextNumber_71 : decode cX10_nextNumber 71 = .ok (.iconst 2, 1) := by decide +kernel
theorem dX10_nextNumber_72 : decode cX10_nextNumber 72 = .ok (.if_icmp .le 7, 3) := by decide +kernel
theorem dX10_nextNumber_75 : decode cX10_nextNumber 75 = .ok (.iconst 4, 1) := by decide +kernel
theorem dX10_nextNumber_76 : decode cX10_nextNumber 76 = .ok (.goto 4, 3) := by decide +kernel
theorem dX10_nextNumber_79 : decode cX10_nextNumber 79 = .ok (.iconst 2, 1) := by decide +kernel
theorem dX10_nextNumber_80 : decode cX10_nextNumber 80 = .ok (.putfield 151, 3) := by decide +kernel
theorem dX10_nextNumber_83 : decode cX10_nextNumber 83 = .ok (.return_, 1) := by decide +kernel
theorem dX10_is_0 : decode cX10_is 0 = .ok (.aload_n 0, 1) := by decide +kernel
theorem dX10_is_1 : decode cX10_is 1 = .ok (.getfield 151, 3) := by decide +kernel
theorem dX10_is_4 : decode cX10_is 4 = .ok (.iconst 1, 1) := by decide +kernel
theorem dX10_is_5 : decode cX10_is 5 = .ok (.if_icmp .ne 15, 3) := by decide +kernel
theorem dX10_is_8 : decode cX10_is 8 = .ok (.aload_n 0, 1) := by decide +kernel
theorem dX10_is_9 : decode cX10_is 9 = .ok (.getfield 148, 3) := by decide +kernel
theorem dX10_is_12 : decode cX10_is 12 = .ok (.iload_n 1, 1) := by decide +kernel
theorem dX10_is_13 : decode cX10_is 13 = .ok (.if_icmp .ne 7, 3) := by decide +kernel
theorem dX10_is_16 : decode cX10_is 16 = .ok (.iconst 1, 1) := by decide +kernel
theorem dX10_is_17 : decode cX10_is 17 = .ok (.goto 4, 3) := by decide +kernel
theorem dX10_is_20 : decode cX10_is 20 = .ok (.iconst 0, 1) := by decide +kernel
theorem dX10_is_21 : decode cX10_is 21 = .ok (.ireturn, 1) := by decide +kernel
theorem dX10_takes_0 : decode cX10_takes 0 = .ok (.aload_n 0, 1) := by decide +kernel
theorem dX10_takes_1 : decode cX10_takes 1 = .ok (.getfield 167, 3) := by decide +kernel
theorem dX10_takes_4 : decode cX10_takes 4 = .ok (.ifCond .eq 5, 3) := by decide +kernel
theorem dX10_takes_7 : decode cX10_takes 7 = .ok (.iconst 0, 1) := by decide +kernel
theorem dX10_takes_8 : decode cX10_takes 8 = .ok (.ireturn, 1) := by decide +kernel
theorem dX10_takes_9 : decode cX10_takes 9 = .ok (.iload_n 1, 1) := by decide +kernel
theorem dX10_takes_10 : decode cX10_takes 10 = .ok (.ifCond .ne 18, 3) := by decide +kernel
theorem dX10_takes_13 : decode cX10_takes 13 = .ok (.aload_n 0, 1) := by decide +kernel
theorem dX10_takes_14 : decode cX10_takes 14 = .ok (.iconst 1, 1) := by decide +kernel
theorem dX10_takes_15 : decode cX10_takes 15 = .ok (.putfield 167, 3) := by decide +kernel
theorem dX10_takes_18 : decode cX10_takes 18 = .ok (.aload_n 0, 1) := by decide +kernel
theorem dX10_takes_19 : decode cX10_takes 19 = .ok (.aload_n 0, 1) := by decide +kernel
theorem dX10_takes_20 : decode cX10_takes 20 = .ok (.getfield 145, 3) := by decide +kernel
theorem dX10_takes_23 : decode cX10_takes 23 = .ok (.putfield 32, 3) := by decide +kernel
theorem dX10_takes_26 : decode cX10_takes 26 = .ok (.iconst 0, 1) := by decide +kernel
theorem dX10_takes_27 : decode cX10_takes 27 = .ok (.ireturn, 1) := by decide +kernel
theorem dX10_takes_28 : decode cX10_takes 28 = .ok (.aload_n 0, 1) := by decide +kernel
theorem dX10_takes_29 : decode cX10_takes 29 = .ok (.invokevirtual 171, 3) := by decide +kernel
theorem dX10_takes_32 : decode cX10_takes 32 = .ok (.iconst 1, 1) := by decide +kernel
theorem dX10_takes_33 : decode cX10_takes 33 = .ok (.ireturn, 1) := by decide +kernel
theorem dX10_takesNumber_0 : decode cX10_takesNumber 0 = .ok (.aload_n 0, 1) := by decide +kernel
theorem dX10_takesNumber_1 : decode cX10_takesNumber 1 = .ok (.getfield 148, 3) := by decide +kernel
theorem dX10_takesNumber_4 : decode cX10_takesNumber 4 = .ok (.istore_n 3, 1) := by decide +kernel
theorem dX10_takesNumber_5 : decode cX10_takesNumber 5 = .ok (.aload_n 0, 1) := by decide +kernel
theorem dX10_takesNumber_6 : decode cX10_takesNumber 6 = .ok (.aload_n 0, 1) := by decide +kernel
theorem dX10_takesNumber_7 : decode cX10_takesNumber 7 = .ok (.getfield 151, 3) := by decide +kernel
theorem dX10_takesNumber_10 : decode cX10_takesNumber 10 = .ok (.iconst 2, 1) := by decide +kernel
theorem dX10_takesNumber_11 : decode cX10_takesNumber 11 = .ok (.if_icmp .ne 16, 3) := by decide +kernel
theorem dX10_takesNumber_14 : decode cX10_takesNumber 14 = .ok (.iload_n 3, 1) := by decide +kernel
theorem dX10_takesNumber_15 : decode cX10_takesNumber 15 = .ok (.iload_n 1, 1) := by decide +kernel
theorem dX10_takesNumber_16 : decode cX10_takesNumber 16 = .ok (.iload_n 2, 1) := by decide +kernel
theorem dX10_takesNumber_17 : decode cX10_takesNumber 17 = .ok (.invokestatic 58, 3) := by decide +kernel
theorem dX10_takesNumber_20 : decode cX10_takesNumber 20 = .ok (.ifCond .eq 7, 3) := by decide +kernel
theorem dX10_takesNumber_23 : decode cX10_takesNumber 23 = .ok (.iconst 1, 1) := by decide +kernel
theorem dX10_takesNumber_24 : decode cX10_takesNumber 24 = .ok (.goto 4, 3) := by decide +kernel
theorem dX10_takesNumber_27 : decode cX10_takesNumber 27 = .ok (.iconst 0, 1) := by decide +kernel
theorem dX10_takesNumber_28 : decode cX10_takesNumber 28 = .ok (.invokevirtual 174, 3) := by decide +kernel
theorem dX10_takesNumber_31 : decode cX10_takesNumber 31 = .ok (.ifCond .eq 7, 3) := by decide +kernel
theorem dX10_takesNumber_34 : decode cX10_takesNumber 34 = .ok (.iload_n 3, 1) := by decide +kernel
theorem dX10_takesNumber_35 : decode cX10_takesNumber 35 = .ok (.goto 4, 3) := by decide +kernel
theorem dX10_takesNumber_38 : decode cX10_takesNumber 38 = .ok (.iconst 0, 1) := by decide +kernel
theorem dX10_takesNumber_39 : decode cX10_takesNumber 39 = .ok (.ireturn, 1) := by decide +kernel
theorem dX10_takesRule_0 : decode cX10_takesRule 0 = .ok (.aload_n 0, 1) := by decide +kernel
theorem dX10_takesRule_1 : decode cX10_takesRule 1 = .ok (.aload_n 0, 1) := by decide +kernel
theorem dX10_takesRule_2 : decode cX10_takesRule 2 = .ok (.iload_n 1, 1) := by decide +kernel
theorem dX10_takesRule_3 : decode cX10_takesRule 3 = .ok (.invokevirtual 178, 3) := by decide +kernel
theorem dX10_takesRule_6 : decode cX10_takesRule 6 = .ok (.invokevirtual 174, 3) := by decide +kernel
theorem dX10_takesRule_9 : decode cX10_takesRule 9 = .ok (.pop, 1) := by decide +kernel
theorem dX10_takesRule_10 : decode cX10_takesRule 10 = .ok (.aload_n 0, 1) := by decide +kernel
theorem dX10_takesRule_11 : decode cX10_takesRule 11 = .ok (.iconst 1, 1) := by decide +kernel
theorem dX10_takesRule_12 : decode cX10_takesRule 12 = .ok (.iload_n 2, 1) := by decide +kernel
theorem dX10_takesRule_13 : decode cX10_takesRule 13 = .ok (.invokevirtual 181, 3) := by decide +kernel
theorem dX10_takesRule_16 : decode cX10_takesRule 16 = .ok (.ireturn, 1) := by decide +kernel
theorem dX10_isNamed_0 : decode cX10_isNamed 0 = .ok (.iconst 0, 1) := by decide +kernel
theorem dX10_isNamed_1 : decode cX10_isNamed 1 = .ok (.istore_n 2, 1) := by decide +kernel
theorem dX10_isNamed_2 : decode cX10_isNamed 2 = .ok (.iload_n 2, 1) := by decide +kernel
theorem dX10_isNamed_3 : decode cX10_isNamed 3 = .ok (.aload_n 0, 1) := by decide +kernel
theorem dX10_isNamed_4 : decode cX10_isNamed 4 = .ok (.iconst 4, 1) := by decide +kernel
theorem dX10_isNamed_5 : decode cX10_isNamed 5 = .ok (.iaload, 1) := by decide +kernel
theorem dX10_isNamed_6 : decode cX10_isNamed 6 = .ok (.if_icmp .ge 22, 3) := by decide +kernel
theorem dX10_isNamed_9 : decode cX10_isNamed 9 = .ok (.aload_n 0, 1) := by decide +kernel
theorem dX10_isNamed_10 : decode cX10_isNamed 10 = .ok (.iload_n 2, 1) := by decide +kernel
theorem dX10_isNamed_11 : decode cX10_isNamed 11 = .ok (.iconst 1, 1) := by decide +kernel
theorem dX10_isNamed_12 : decode cX10_isNamed 12 = .ok (.invokestatic 54, 3) := by decide +kernel
theorem dX10_isNamed_15 : decode cX10_isNamed 15 = .ok (.iaload, 1) := by decide +kernel
theorem dX10_isNamed_16 : decode cX10_isNamed 16 = .ok (.iload_n 1, 1) := by decide +kernel
theorem dX10_isNamed_17 : decode cX10_isNamed 17 = .ok (.if_icmp .ne 5, 3) := by decide +kernel
theorem dX10_isNamed_20 : decode cX10_isNamed 20 = .ok (.iconst 1, 1) := by decide +kernel
theorem dX10_isNamed_21 : decode cX10_isNamed 21 = .ok (.ireturn, 1) := by decide +kernel
theorem dX10_isNamed_22 : decode cX10_isNamed 22 = .ok (.iinc 2 1, 3) := by decide +kernel
theorem dX10_isNamed_25 : decode cX10_isNamed 25 = .ok (.goto (-23), 3) := by decide +kernel
theorem dX10_isNamed_28 : decode cX10_isNamed 28 = .ok (.iconst 0, 1) := by decide +kernel
theorem dX10_isNamed_29 : decode cX10_isNamed 29 = .ok (.ireturn, 1) := by decide +kernel
theorem dX10_readOffice_0 : decode cX10_readOffice 0 = .ok (.aload_n 0, 1) := by decide +kernel
theorem dX10_readOffice_1 : decode cX10_readOffice 1 = .ok (.aload_n 0, 1) := by decide +kernel
theorem dX10_readOffice_2 : decode cX10_readOffice 2 = .ok (.ldc 184, 2) := by decide +kernel
theorem dX10_readOffice_4 : decode cX10_readOffice 4 = .ok (.invokevirtual 178, 3) := by decide +kernel
theorem dX10_readOffice_7 : decode cX10_readOffice 7 = .ok (.ifCond .eq 18, 3) := by decide +kernel
theorem dX10_readOffice_10 : decode cX10_readOffice 10 = .ok (.aload_n 0, 1) := by decide +kernel
theorem dX10_readOffice_11 : decode cX10_readOffice 11 = .ok (.getfield 13, 3) := by decide +kernel
theorem dX10_readOffice_14 : decode cX10_readOffice 14 = .ok (.iconst 4, 1) := by decide +kernel
theorem dX10_readOffice_15 : decode cX10_readOffice 15 = .ok (.iaload, 1) := by decide +kernel
theorem dX10_readOffice_16 : decode cX10_readOffice 16 = .ok (.bipush 10, 2) := by decide +kernel
theorem dX10_readOffice_18 : decode cX10_readOffice 18 = .ok (.if_icmp .ge 7, 3) := by decide +kernel
theorem dX10_readOffice_21 : decode cX10_readOffice 21 = .ok (.iconst 1, 1) := by decide +kernel
theorem dX10_readOffice_22 : decode cX10_readOffice 22 = .ok (.goto 4, 3) := by decide +kernel
theorem dX10_readOffice_25 : decode cX10_readOffice 25 = .ok (.iconst 0, 1) := by decide +kernel
theorem dX10_readOffice_26 : decode cX10_readOffice 26 = .ok (.invokevirtual 174, 3) := by decide +kernel
theorem dX10_readOffice_29 : decode cX10_readOffice 29 = .ok (.ifCond .ne 4, 3) := by decide +kernel
theorem dX10_readOffice_32 : decode cX10_readOffice 32 = .ok (.return_, 1) := by decide +kernel
theorem dX10_readOffice_33 : decode cX10_readOffice 33 = .ok (.aload_n 0, 1) := by decide +kernel
theorem dX10_readOffice_34 : decode cX10_readOffice 34 = .ok (.iconst 1, 1) := by decide +kernel
theorem dX10_readOffice_35 : decode cX10_readOffice 35 = .ok (.bipush 9, 2) := by decide +kernel
theorem dX10_readOffice_37 : decode cX10_readOffice 37 = .ok (.invokevirtual 181, 3) := by decide +kernel
theorem dX10_readOffice_40 : decode cX10_readOffice 40 = .ok (.istore_n 1, 1) := by decide +kernel
theorem dX10_readOffice_41 : decode cX10_readOffice 41 = .ok (.aload_n 0, 1) := by decide +kernel
theorem dX10_readOffice_42 : decode cX10_readOffice 42 = .ok (.getfield 148, 3) := by decide +kernel
theorem dX10_readOffice_45 : decode cX10_readOffice 45 = .ok (.istore_n 2, 1) := by decide +kernel
theorem dX10_readOffice_46 : decode cX10_readOffice 46 = .ok (.iconst 1, 1) := by decide +kernel
theorem dX10_readOffice_47 : decode cX10_readOffice 47 = .ok (.istore_n 3, 1) := by decide +kernel
theorem dX10_readOffice_48 : decode cX10_readOffice 48 = .ok (.aload_n 0, 1) := by decide +kernel
theorem dX10_readOffice_49 : decode cX10_readOffice 49 = .ok (.aload_n 0, 1) := by decide +kernel
theorem dX10_readOffice_50 : decode cX10_readOffice 50 = .ok (.getfield 151, 3) := by decide +kernel
theorem dX10_readOffice_53 : decode cX10_readOffice 53 = .ok (.iconst 2, 1) := by decide +kernel
theorem dX10_readOffice_54 : decode cX10_readOffice 54 = .ok (.if_icmp .ne 28, 3) := by decide +kernel
theorem dX10_readOffice_57 : decode cX10_readOffice 57 = .ok (.iload_n 2, 1) := by decide +kernel
theorem dX10_readOffice_58 : decode cX10_readOffice 58 = .ok (.iconst 1, 1) := by decide +kernel
theorem dX10_readOffice_59 : decode cX10_readOffice 59 = .ok (.bipush 99, 2) := by decide +kernel
theorem dX10_readOffice_61 : decode cX10_readOffice 61 = .ok (.invokestatic 58, 3) := by decide +kernel
theorem dX10_readOffice_64 : decode cX10_readOffice 64 = .ok (.ifCond .eq 18, 3) := by decide +kernel
theorem dX10_readOffice_67 : decode cX10_readOffice 67 = .ok (.aload_n 0, 1) := by decide +kernel
theorem dX10_readOffice_68 : decode cX10_readOffice 68 = .ok (.getfield 13, 3) := by decide +kernel
theorem dX10_readOffice_71 : decode cX10_readOffice 71 = .ok (.iload_n 2, 1) := by decide +kernel
theorem dX10_readOffice_72 : decode cX10_readOffice 72 = .ok (.invokestatic 185, 3) := by decide +kernel
theorem dX10_readOffice_75 : decode cX10_readOffice 75 = .ok (.ifCond .ne 7, 3) := by decide +kernel
theorem dX10_readOffice_78 : decode cX10_readOffice 78 = .ok (.iconst 1, 1) := by decide +kernel
theorem dX10_readOffice_79 : decode cX10_readOffice 79 = .ok (.goto 4, 3) := by decide +kernel
theorem dX10_readOffice_82 : decode cX10_readOffice 82 = .ok (.iconst 0, 1) := by decide +kernel
theorem dX10_readOffice_83 : decode cX10_readOffice 83 = .ok (.invokevirtual 174, 3) := by decide +kernel
theorem dX10_readOffice_86 : decode cX10_readOffice 86 = .ok (.pop, 1) := by decide +kernel
theorem dX10_readOffice_87 : decode cX10_readOffice 87 = .ok (.aload_n 0, 1) := by decide +kernel
theorem dX10_readOffice_88 : decode cX10_readOffice 88 = .ok (.getfield 167, 3) := by decide +kernel
theorem dX10_readOffice_91 : decode cX10_readOffice 91 = .ok (.ifCond .ne 18, 3) := by decide +kernel
theorem dX10_readOffice_94 : decode cX10_readOffice 94 = .ok (.aload_n 0, 1) := by decide +kernel
theorem dX10_readOffice_95 : decode cX10_readOffice 95 = .ok (.ldc 188, 2) := by decide +kernel
theorem dX10_readOffice_97 : decode cX10_readOffice 97 = .ok (.invokevirtual 178, 3) := by decide +kernel
theorem dX10_readOffice_100 : decode cX10_readOffice 100 = .ok (.ifCond .eq 9, 3) := by decide +kernel
theorem dX10_readOffice_103 : decode cX10_readOffice 103 = .ok (.aload_n 0, 1) := by decide +kernel
theorem dX10_readOffice_104 : decode cX10_readOffice 104 = .ok (.invokevirtual 171, 3) := by decide +kernel
theorem dX10_readOffice_107 : decode cX10_readOffice 107 = .ok (.iconst 0, 1) := by decide +kernel
theorem dX10_readOffice_108 : decode cX10_readOffice 108 = .ok (.istore_n 3, 1) := by decide +kernel
theorem dX10_readOffice_109 : decode cX10_readOffice 109 = .ok (.aload_n 0, 1) := by decide +kernel
theorem dX10_readOffice_110 : decode cX10_readOffice 110 = .ok (.aload_n 0, 1) := by decide +kernel
theorem dX10_readOffice_111 : decode cX10_readOffice 111 = .ok (.getfield 151, 3) := by decide +kernel
theorem dX10_readOffice_114 : decode cX10_readOffice 114 = .ok (.iconst 3, 1) := by decide +kernel
theorem dX10_readOffice_115 : decode cX10_readOffice 115 = .ok (.if_icmp .ne 7, 3) := by decide +kernel
theorem dX10_readOffice_118 : decode cX10_readOffice 118 = .ok (.iconst 1, 1) := by decide +kernel
theorem dX10_readOffice_119 : decode cX10_readOffice 119 = .ok (.goto 4, 3) := by decide +kernel
theorem dX10_readOffice_122 : decode cX10_readOffice 122 = .ok (.iconst 0, 1) := by decide +kernel
theorem dX10_readOffice_123 : decode cX10_readOffice 123 = .ok (.invokevirtual 174, 3) := by decide +kernel
theorem dX10_readOffice_126 : decode cX10_readOffice 126 = .ok (.ifCond .eq 13, 3) := by decide +kernel
theorem dX10_readOffice_129 : decode cX10_readOffice 129 = .ok (.aload_n 0, 1) := by decide +kernel
theorem dX10_readOffice_130 : decode cX10_readOffice 130 = .ok (.getfield 13, 3) := by decide +kernel
theorem dX10_readOffice_133 : decode cX10_readOffice 133 = .ok (.iload_n 1, 1) := by decide +kernel
theorem dX10_readOffice_134 : decode cX10_readOffice 134 = .ok (.iload_n 2, 1) := by decide +kernel
theorem dX10_readOffice_135 : decode cX10_readOffice 135 = .ok (.iload_n 3, 1) := by decide +kernel
theorem dX10_readOffice_136 : decode cX10_readOffice 136 = .ok (.invokestatic 39, 3) := by decide +kernel
theorem dX10_readOffice_139 : decode cX10_readOffice 139 = .ok (.return_, 1) := by decide +kernel
theorem dX10_readLetter_0 : decode cX10_readLetter 0 = .ok (.aload_n 0, 1) := by decide +kernel
theorem dX10_readLetter_1 : decode cX10_readLetter 1 = .ok (.invokevirtual 171, 3) := by decide +kernel
theorem dX10_readLetter_4 : decode cX10_readLetter 4 = .ok (.aload_n 0, 1) := by decide +kernel
theorem dX10_readLetter_5 : decode cX10_readLetter 5 = .ok (.getfield 148, 3) := by decide +kernel
theorem dX10_readLetter_8 : decode cX10_readLetter 8 = .ok (.istore_n 1, 1) := by decide +kernel
theorem dX10_readLetter_9 : decode cX10_readLetter 9 = .ok (.aload_n 0, 1) := by decide +kernel
theorem dX10_readLetter_10 : decode cX10_readLetter 10 = .ok (.aload_n 0, 1) := by decide +kernel
theorem dX10_readLetter_11 : decode cX10_readLetter 11 = .ok (.getfield 151, 3) := by decide +kernel
theorem dX10_readLetter_14 : decode cX10_readLetter 14 = .ok (.iconst 2, 1) := by decide +kernel
theorem dX10_readLetter_15 : decode cX10_readLetter 15 = .ok (.if_icmp .ne 32, 3) := by decide +kernel
theorem dX10_readLetter_18 : decode cX10_readLetter 18 = .ok (.iload_n 1, 1) := by decide +kernel
theorem dX10_readLetter_19 : decode cX10_readLetter 19 = .ok (.aload_n 0, 1) := by decide +kernel
theorem dX10_readLetter_20 : decode cX10_readLetter 20 = .ok (.getfield 13, 3) := by decide +kernel
theorem dX10_readLetter_23 : decode cX10_readLetter 23 = .ok (.iconst 4, 1) := by decide +kernel
theorem dX10_readLetter_24 : decode cX10_readLetter 24 = .ok (.iaload, 1) := by decide +kernel
theorem dX10_readLetter_25 : decode cX10_readLetter 25 = .ok (.if_icmp .ge 22, 3) := by decide +kernel
theorem dX10_readLetter_28 : decode cX10_readLetter 28 = .ok (.aload_n 0, 1) := by decide +kernel
theorem dX10_readLetter_29 : decode cX10_readLetter 29 = .ok (.getfield 13, 3) := by decide +kernel
theorem dX10_readLetter_32 : decode cX10_readLetter 32 = .ok (.iload_n 1, 1) := by decide +kernel
theorem dX10_readLetter_33 : decode cX10_readLetter 33 = .ok (.iconst 4, 1) := by decide +kernel
theorem dX10_readLetter_34 : decode cX10_readLetter 34 = .ok (.invokestatic 54, 3) := by decide +kernel
theorem dX10_readLetter_37 : decode cX10_readLetter 37 = .ok (.iaload, 1) := by decide +kernel
theorem dX10_readLetter_38 : decode cX10_readLetter 38 = .ok (.bipush 6, 2) := by decide +kernel
theorem dX10_readLetter_40 : decode cX10_readLetter 40 = .ok (.if_icmp .ge 7, 3) := by decide +kernel
theorem dX10_readLetter_43 : decode cX10_readLetter 43 = .ok (.iconst 1, 1) := by decide +kernel
theorem dX10_readLetter_44 : decode cX10_readLetter 44 = .ok (.goto 4, 3) := by decide +kernel
theorem dX10_readLetter_47 : decode cX10_readLetter 47 = .ok (.iconst 0, 1) := by decide +kernel
theorem dX10_readLetter_48 : decode cX10_readLetter 48 = .ok (.invokevirtual 174, 3) := by decide +kernel
theorem dX10_readLetter_51 : decode cX10_readLetter 51 = .ok (.ifCond .ne 4, 3) := by decide +kernel
theorem dX10_readLetter_54 : decode cX10_readLetter 54 = .ok (.return_, 1) := by decide +kernel
theorem dX10_readLetter_55 : decode cX10_readLetter 55 = .ok (.aload_n 0, 1) := by decide +kernel
theorem dX10_readLetter_56 : decode cX10_readLetter 56 = .ok (.getfield 148, 3) := by decide +kernel
theorem dX10_readLetter_59 : decode cX10_readLetter 59 = .ok (.istore_n 2, 1) := by decide +kernel
theorem dX10_readLetter_60 : decode cX10_readLetter 60 = .ok (.aload_n 0, 1) := by decide +kernel
theorem dX10_readLetter_61 : decode cX10_readLetter 61 = .ok (.aload_n 0, 1) := by decide +kernel
theorem dX10_readLetter_62 : decode cX10_readLetter 62 = .ok (.getfield 151, 3) := by decide +kernel
theorem dX10_readLetter_65 : decode cX10_readLetter 65 = .ok (.iconst 2, 1) := by decide +kernel
theorem dX10_readLetter_66 : decode cX10_readLetter 66 = .ok (.if_icmp .ne 22, 3) := by decide +kernel
theorem dX10_readLetter_69 : decode cX10_readLetter 69 = .ok (.iload_n 2, 1) := by decide +kernel
theorem dX10_readLetter_70 : decode cX10_readLetter 70 = .ok (.aload_n 0, 1) := by decide +kernel
theorem dX10_readLetter_71 : decode cX10_readLetter 71 = .ok (.getfield 13, 3) := by decide +kernel
theorem dX10_readLetter_74 : decode cX10_readLetter 74 = .ok (.iconst 4, 1) := by decide +kernel
theorem dX10_readLetter_75 : decode cX10_readLetter 75 = .ok (.iaload, 1) := by decide +kernel
theorem dX10_readLetter_76 : decode cX10_readLetter 76 = .ok (.if_icmp .ge 12, 3) := by decide +kernel
theorem dX10_readLetter_79 : decode cX10_readLetter 79 = .ok (.iload_n 2, 1) := by decide +kernel
theorem dX10_readLetter_80 : decode cX10_readLetter 80 = .ok (.iload_n 1, 1) := by decide +kernel
theorem dX10_readLetter_81 : decode cX10_readLetter 81 = .ok (.if_icmp .eq 7, 3) := by decide +kernel
theorem dX10_readLetter_84 : decode cX10_readLetter 84 = .ok (.iconst 1, 1) := by decide +kernel
theorem dX10_readLetter_85 : decode cX10_readLetter 85 = .ok (.goto 4, 3) := by decide +kernel
theorem dX10_readLetter_88 : decode cX10_readLetter 88 = .ok (.iconst 0, 1) := by decide +kernel
theorem dX10_readLetter_89 : decode cX10_readLetter 89 = .ok (.invokevirtual 174, 3) := by decide +kernel
theorem dX10_readLetter_92 : decode cX10_readLetter 92 = .ok (.pop, 1) := by decide +kernel
theorem dX10_readLetter_93 : decode cX10_readLetter 93 = .ok (.aload_n 0, 1) := by decide +kernel
theorem dX10_readLetter_94 : decode cX10_readLetter 94 = .ok (.iconst 1, 1) := by decide +kernel
theorem dX10_readLetter_95 : decode cX10_readLetter 95 = .ok (.bipush 9, 2) := by decide +kernel
theorem dX10_readLetter_97 : decode cX10_readLetter 97 = .ok (.invokevirtual 181, 3) := by decide +kernel
theorem dX10_readLetter_100 : decode cX10_readLetter 100 = .ok (.istore_n 3, 1) := by decide +kernel
theorem dX10_readLetter_101 : decode cX10_readLetter 101 = .ok (.aload_n 0, 1) := by decide +kernel
theorem dX10_readLetter_102 : decode cX10_readLetter 102 = .ok (.aload_n 0, 1) := by decide +kernel
theorem dX10_readLetter_103 : decode cX10_readLetter 103 = .ok (.getfield 151, 3) := by decide +kernel
theorem dX10_readLetter_106 : decode cX10_readLetter 106 = .ok (.iconst 3, 1) := by decide +kernel
theorem dX10_readLetter_107 : decode cX10_readLetter 107 = .ok (.if_icmp .ne 7, 3) := by decide +kernel
theorem dX10_readLetter_110 : decode cX10_readLetter 110 = .ok (.iconst 1, 1) := by decide +kernel
theorem dX10_readLetter_111 : decode cX10_readLetter 111 = .ok (.goto 4, 3) := by decide +kernel
theorem dX10_readLetter_114 : decode cX10_readLetter 114 = .ok (.iconst 0, 1) := by decide +kernel
theorem dX10_readLetter_115 : decode cX10_readLetter 115 = .ok (.invokevirtual 174, 3) := by decide +kernel
theorem dX10_readLetter_118 : decode cX10_readLetter 118 = .ok (.ifCond .eq 13, 3) := by decide +kernel
theorem dX10_readLetter_121 : decode cX10_readLetter 121 = .ok (.aload_n 0, 1) := by decide +kernel
theorem dX10_readLetter_122 : decode cX10_readLetter 122 = .ok (.getfield 13, 3) := by decide +kernel
theorem dX10_readLetter_125 : decode cX10_readLetter 125 = .ok (.iload_n 1, 1) := by decide +kernel
theorem dX10_readLetter_126 : decode cX10_readLetter 126 = .ok (.iload_n 2, 1) := by decide +kernel
theorem dX10_readLetter_127 : decode cX10_readLetter 127 = .ok (.iload_n 3, 1) := by decide +kernel
theorem dX10_readLetter_128 : decode cX10_readLetter 128 = .ok (.invokestatic 189, 3) := by decide +kernel
theorem dX10_readLetter_131 : decode cX10_readLetter 131 = .ok (.return_, 1) := by decide +kernel
theorem dX10_readToken_0 : decode cX10_readToken 0 = .ok (.aload_n 0, 1) := by decide +kernel
theorem dX10_readToken_1 : decode cX10_readToken 1 = .ok (.invokevirtual 171, 3) := by decide +kernel
theorem dX10_readToken_4 : decode cX10_readToken 4 = .ok (.aload_n 0, 1) := by decide +kernel
theorem dX10_readToken_5 : decode cX10_readToken 5 = .ok (.getfield 148, 3) := by decide +kernel
theorem dX10_readToken_8 : decode cX10_readToken 8 = .ok (.istore_n 1, 1) := by decide +kernel
theorem dX10_readToken_9 : decode cX10_readToken 9 = .ok (.aload_n 0, 1) := by decide +kernel
theorem dX10_readToken_10 : decode cX10_readToken 10 = .ok (.aload_n 0, 1) := by decide +kernel
theorem dX10_readToken_11 : decode cX10_readToken 11 = .ok (.getfield 151, 3) := by decide +kernel
theorem dX10_readToken_14 : decode cX10_readToken 14 = .ok (.iconst 2, 1) := by decide +kernel
theorem dX10_readToken_15 : decode cX10_readToken 15 = .ok (.if_icmp .ne 28, 3) := by decide +kernel
theorem dX10_readToken_18 : decode cX10_readToken 18 = .ok (.iload_n 1, 1) := by decide +kernel
theorem dX10_readToken_19 : decode cX10_readToken 19 = .ok (.aload_n 0, 1) := by decide +kernel
theorem dX10_readToken_20 : decode cX10_readToken 20 = .ok (.getfield 13, 3) := by decide +kernel
theorem dX10_readToken_23 : decode cX10_readToken 23 = .ok (.iconst 4, 1) := by decide +kernel
theorem dX10_readToken_24 : decode cX10_readToken 24 = .ok (.iaload, 1) := by decide +kernel
theorem dX10_readToken_25 : decode cX10_readToken 25 = .ok (.if_icmp .ge 18, 3) := by decide +kernel
theorem dX10_readToken_28 : decode cX10_readToken 28 = .ok (.aload_n 0, 1) := by decide +kernel
theorem dX10_readToken_29 : decode cX10_readToken 29 = .ok (.getfield 13, 3) := by decide +kernel
theorem dX10_readToken_32 : decode cX10_readToken 32 = .ok (.iload_n 1, 1) := by decide +kernel
theorem dX10_readToken_33 : decode cX10_readToken 33 = .ok (.invokestatic 73, 3) := by decide +kernel
theorem dX10_readToken_36 : decode cX10_readToken 36 = .ok (.ifCond .eq 7, 3) := by decide +kernel
theorem dX10_readToken_39 : decode cX10_readToken 39 = .ok (.iconst 1, 1) := by decide +kernel
theorem dX10_readToken_40 : decode cX10_readToken 40 = .ok (.goto 4, 3) := by decide +kernel
theorem dX10_readToken_43 : decode cX10_readToken 43 = .ok (.iconst 0, 1) := by decide +kernel
theorem dX10_readToken_44 : decode cX10_readToken 44 = .ok (.invokevirtual 174, 3) := by decide +kernel
theorem dX10_readToken_47 : decode cX10_readToken 47 = .ok (.ifCond .ne 4, 3) := by decide +kernel
theorem dX10_readToken_50 : decode cX10_readToken 50 = .ok (.return_, 1) := by decide +kernel
theorem dX10_readToken_51 : decode cX10_readToken 51 = .ok (.aload_n 0, 1) := by decide +kernel
theorem dX10_readToken_52 : decode cX10_readToken 52 = .ok (.aload_n 0, 1) := by decide +kernel
theorem dX10_readToken_53 : decode cX10_readToken 53 = .ok (.getfield 151, 3) := by decide +kernel
theorem dX10_readToken_56 : decode cX10_readToken 56 = .ok (.iconst 3, 1) := by decide +kernel
theorem dX10_readToken_57 : decode cX10_readToken 57 = .ok (.if_icmp .ne 7, 3) := by decide +kernel
theorem dX10_readToken_60 : decode cX10_readToken 60 = .ok (.iconst 1, 1) := by decide +kernel
theorem dX10_readToken_61 : decode cX10_readToken 61 = .ok (.goto 4, 3) := by decide +kernel
theorem dX10_readToken_64 : decode cX10_readToken 64 = .ok (.iconst 0, 1) := by decide +kernel
theorem dX10_readToken_65 : decode cX10_readToken 65 = .ok (.invokevirtual 174, 3) := by decide +kernel
theorem dX10_readToken_68 : decode cX10_readToken 68 = .ok (.ifCond .eq 12, 3) := by decide +kernel
theorem dX10_readToken_71 : decode cX10_readToken 71 = .ok (.aload_n 0, 1) := by decide +kernel
theorem dX10_readToken_72 : decode cX10_readToken 72 = .ok (.getfield 13, 3) := by decide +kernel
theorem dX10_readToken_75 : decode cX10_readToken 75 = .ok (.iload_n 1, 1) := by decide +kernel
theorem dX10_readToken_76 : decode cX10_readToken 76 = .ok (.invokestatic 43, 3) := by decide +kernel
theorem dX10_readToken_79 : decode cX10_readToken 79 = .ok (.pop, 1) := by decide +kernel
theorem dX10_readToken_80 : decode cX10_readToken 80 = .ok (.return_, 1) := by decide +kernel
theorem dX10_load_0 : decode cX10_load 0 = .ok (.iconst 0, 1) := by decide +kernel
theorem dX10_load_1 : decode cX10_load 1 = .ok (.istore_n 1, 1) := by decide +kernel
theorem dX10_load_2 : decode cX10_load 2 = .ok (.iload_n 1, 1) := by decide +kernel
theorem dX10_load_3 : decode cX10_load 3 = .ok (.sipush 336, 3) := by decide +kernel
theorem dX10_load_6 : decode cX10_load 6 = .ok (.if_icmp .ge 16, 3) := by decide +kernel
theorem dX10_load_9 : decode cX10_load 9 = .ok (.aload_n 0, 1) := by decide +kernel
theorem dX10_load_10 : decode cX10_load 10 = .ok (.getfield 13, 3) := by decide +kernel
theorem dX10_load_13 : decode cX10_load 13 = .ok (.iload_n 1, 1) := by decide +kernel
theorem dX10_load_14 : decode cX10_load 14 = .ok (.iconst 0, 1) := by decide +kernel
theorem dX10_load_15 : decode cX10_load 15 = .ok (.iastore, 1) := by decide +kernel
theorem dX10_load_16 : decode cX10_load 16 = .ok (.iinc 1 1, 3) := by decide +kernel
theorem dX10_load_19 : decode cX10_load 19 = .ok (.goto (-17), 3) := by decide +kernel
theorem dX10_load_22 : decode cX10_load 22 = .ok (.aload_n 0, 1) := by decide +kernel
theorem dX10_load_23 : decode cX10_load 23 = .ok (.iconst 0, 1) := by decide +kernel
theorem dX10_load_24 : decode cX10_load 24 = .ok (.putfield 142, 3) := by decide +kernel
theorem dX10_load_27 : decode cX10_load 27 = .ok (.aload_n 0, 1) := by decide +kernel
theorem dX10_load_28 : decode cX10_load 28 = .ok (.iconst 0, 1) := by decide +kernel
theorem dX10_load_29 : decode cX10_load 29 = .ok (.putfield 167, 3) := by decide +kernel
theorem dX10_load_32 : decode cX10_load 32 = .ok (.aload_n 0, 1) := by decide +kernel
theorem dX10_load_33 : decode cX10_load 33 = .ok (.bipush (-2), 2) := by decide +kernel
theorem dX10_load_35 : decode cX10_load 35 = .ok (.putfield 32, 3) := by decide +kernel
theorem dX10_load_38 : decode cX10_load 38 = .ok (.aload_n 0, 1) := by decide +kernel
theorem dX10_load_39 : decode cX10_load 39 = .ok (.invokevirtual 171, 3) := by decide +kernel
theorem dX10_load_42 : decode cX10_load 42 = .ok (.aload_n 0, 1) := by decide +kernel
theorem dX10_load_43 : decode cX10_load 43 = .ok (.getfield 13, 3) := by decide +kernel
theorem dX10_load_46 : decode cX10_load 46 = .ok (.iconst 0, 1) := by decide +kernel
theorem dX10_load_47 : decode cX10_load 47 = .ok (.aload_n 0, 1) := by decide +kernel
theorem dX10_load_48 : decode cX10_load 48 = .ok (.ldc 192, 2) := by decide +kernel
theorem dX10_load_50 : decode cX10_load 50 = .ok (.bipush 20, 2) := by decide +kernel
theorem dX10_load_52 : decode cX10_load 52 = .ok (.invokevirtual 193, 3) := by decide +kernel
theorem dX10_load_55 : decode cX10_load 55 = .ok (.iastore, 1) := by decide +kernel
theorem dX10_load_56 : decode cX10_load 56 = .ok (.aload_n 0, 1) := by decide +kernel
theorem dX10_load_57 : decode cX10_load 57 = .ok (.getfield 13, 3) := by decide +kernel
theorem dX10_load_60 : decode cX10_load 60 = .ok (.iconst 1, 1) := by decide +kernel
theorem dX10_load_61 : decode cX10_load 61 = .ok (.aload_n 0, 1) := by decide +kernel
theorem dX10_load_62 : decode cX10_load 62 = .ok (.ldc 196, 2) := by decide +kernel
theorem dX10_load_64 : decode cX10_load 64 = .ok (.bipush 99, 2) := by decide +kernel
theorem dX10_load_66 : decode cX10_load 66 = .ok (.invokevirtual 193, 3) := by decide +kernel
theorem dX10_load_69 : decode cX10_load 69 = .ok (.iastore, 1) := by decide +kernel
theorem dX10_load_70 : decode cX10_load 70 = .ok (.aload_n 0, 1) := by decide +kernel
theorem dX10_load_71 : decode cX10_load 71 = .ok (.getfield 13, 3) := by decide +kernel
theorem dX10_load_74 : decode cX10_load 74 = .ok (.iconst 2, 1) := by decide +kernel
theorem dX10_load_75 : decode cX10_load 75 = .ok (.aload_n 0, 1) := by decide +kernel
theorem dX10_load_76 : decode cX10_load 76 = .ok (.ldc 197, 2) := by decide +kernel
theorem dX10_load_78 : decode cX10_load 78 = .ok (.bipush 60, 2) := by decide +kernel
theorem dX10_load_80 : decode cX10_load 80 = .ok (.invokevirtual 193, 3) := by decide +kernel
theorem dX10_load_83 : decode cX10_load 83 = .ok (.iastore, 1) := by decide +kernel
theorem dX10_load_84 : decode cX10_load 84 = .ok (.aload_n 0, 1) := by decide +kernel
theorem dX10_load_85 : decode cX10_load 85 = .ok (.aload_n 0, 1) := by decide +kernel
theorem dX10_load_86 : decode cX10_load 86 = .ok (.getfield 151, 3) := by decide +kernel
theorem dX10_load_89 : decode cX10_load 89 = .ok (.iconst 3, 1) := by decide +kernel
theorem dX10_load_90 : decode cX10_load 90 = .ok (.if_icmp .ne 7, 3) := by decide +kernel
theorem dX10_load_93 : decode cX10_load 93 = .ok (.iconst 1, 1) := by decide +kernel
theorem dX10_load_94 : decode cX10_load 94 = .ok (.goto 4, 3) := by decide +kernel
theorem dX10_load_97 : decode cX10_load 97 = .ok (.iconst 0, 1) := by decide +kernel
theorem dX10_load_98 : decode cX10_load 98 = .ok (.invokevirtual 174, 3) := by decide +kernel
theorem dX10_load_101 : decode cX10_load 101 = .ok (.pop, 1) := by decide +kernel
theorem dX10_load_102 : decode cX10_load 102 = .ok (.aload_n 0, 1) := by decide +kernel
theorem dX10_load_103 : decode cX10_load 103 = .ok (.getfield 167, 3) := by decide +kernel
theorem dX10_load_106 : decode cX10_load 106 = .ok (.ifCond .ne 29, 3) := by decide +kernel
theorem dX10_load_109 : decode cX10_load 109 = .ok (.aload_n 0, 1) := by decide +kernel
theorem dX10_load_110 : decode cX10_load 110 = .ok (.getfield 13, 3) := by decide +kernel
theorem dX10_load_113 : decode cX10_load 113 = .ok (.iconst 4, 1) := by decide +kernel
theorem dX10_load_114 : decode cX10_load 114 = .ok (.iaload, 1) := by decide +kernel
theorem dX10_load_115 : decode cX10_load 115 = .ok (.iconst 2, 1) := by decide +kernel
theorem dX10_load_116 : decode cX10_load 116 = .ok (.if_icmp .lt 12, 3) := by decide +kernel
theorem dX10_load_119 : decode cX10_load 119 = .ok (.aload_n 0, 1) := by decide +kernel
theorem dX10_load_120 : decode cX10_load 120 = .ok (.ldc 184, 2) := by decide +kernel
theorem dX10_load_122 : decode cX10_load 122 = .ok (.invokevirtual 178, 3) := by decide +kernel
theorem dX10_load_125 : decode cX10_load 125 = .ok (.ifCond .eq 10, 3) := by decide +kernel
theorem dX10_load_128 : decode cX10_load 128 = .ok (.aload_n 0, 1) := by decide +kernel
theorem dX10_load_129 : decode cX10_load 129 = .ok (.invokevirtual 198, 3) := by decide +kernel
theorem dX10_load_132 : decode cX10_load 132 = .ok (.goto (-30), 3) := by decide +kernel
theorem dX10_load_135 : decode cX10_load 135 = .ok (.aload_n 0, 1) := by decide +kernel
theorem dX10_load_136 : decode cX10_load 136 = .ok (.getfield 167, 3) := by decide +kernel
theorem dX10_load_139 : decode cX10_load 139 = .ok (.ifCond .ne 19, 3) := by decide +kernel
theorem dX10_load_142 : decode cX10_load 142 = .ok (.aload_n 0, 1) := by decide +kernel
theorem dX10_load_143 : decode cX10_load 143 = .ok (.ldc 201, 2) := by decide +kernel
theorem dX10_load_145 : decode cX10_load 145 = .ok (.invokevirtual 178, 3) := by decide +kernel
theorem dX10_load_148 : decode cX10_load 148 = .ok (.ifCond .eq 10, 3) := by decide +kernel
theorem dX10_load_151 : decode cX10_load 151 = .ok (.aload_n 0, 1) := by decide +kernel
theorem dX10_load_152 : decode cX10_load 152 = .ok (.invokevirtual 202, 3) := by decide +kernel
theorem dX10_load_155 : decode cX10_load 155 = .ok (.goto (-20), 3) := by decide +kernel
theorem dX10_load_158 : decode cX10_load 158 = .ok (.aload_n 0, 1) := by decide +kernel
theorem dX10_load_159 : decode cX10_load 159 = .ok (.getfield 167, 3) := by decide +kernel
theorem dX10_load_162 : decode cX10_load 162 = .ok (.ifCond .ne 16, 3) := by decide +kernel
theorem dX10_load_165 : decode cX10_load 165 = .ok (.aload_n 0, 1) := by decide +kernel
theorem dX10_load_166 : decode cX10_load 166 = .ok (.ldc 205, 2) := by decide +kernel
theorem dX10_load_168 : decode cX10_load 168 = .ok (.invokevirtual 178, 3) := by decide +kernel
theorem dX10_load_171 : decode cX10_load 171 = .ok (.ifCond .eq 7, 3) := by decide +kernel
theorem dX10_load_174 : decode cX10_load 174 = .ok (.aload_n 0, 1) := by decide +kernel
theorem dX10_load_175 : decode cX10_load 175 = .ok (.invokevirtual 206, 3) := by decide +kernel
theorem dX10_load_178 : decode cX10_load 178 = .ok (.aload_n 0, 1) := by decide +kernel
theorem dX10_load_179 : decode cX10_load 179 = .ok (.getfield 167, 3) := by decide +kernel
theorem dX10_load_182 : decode cX10_load 182 = .ok (.ifCond .ne 16, 3) := by decide +kernel
theorem dX10_load_185 : decode cX10_load 185 = .ok (.aload_n 0, 1) := by decide +kernel
theorem dX10_load_186 : decode cX10_load 186 = .ok (.getfield 151, 3) := by decide +kernel
theorem dX10_load_189 : decode cX10_load 189 = .ok (.ifCond .eq 9, 3) := by decide +kernel
theorem dX10_load_192 : decode cX10_load 192 = .ok (.aload_n 0, 1) := by decide +kernel
theorem dX10_load_193 : decode cX10_load 193 = .ok (.iconst 0, 1) := by decide +kernel
theorem dX10_load_194 : decode cX10_load 194 = .ok (.invokevirtual 174, 3) := by decide +kernel
theorem dX10_load_197 : decode cX10_load 197 = .ok (.pop, 1) := by decide +kernel
theorem dX10_load_198 : decode cX10_load 198 = .ok (.aload_n 0, 1) := by decide +kernel
theorem dX10_load_199 : decode cX10_load 199 = .ok (.iconst 0, 1) := by decide +kernel
theorem dX10_load_200 : decode cX10_load 200 = .ok (.putfield 139, 3) := by decide +kernel
theorem dX10_load_203 : decode cX10_load 203 = .ok (.aload_n 0, 1) := by decide +kernel
theorem dX10_load_204 : decode cX10_load 204 = .ok (.getfield 167, 3) := by decide +kernel
theorem dX10_load_207 : decode cX10_load 207 = .ok (.ifCond .eq 5, 3) := by decide +kernel
theorem dX10_load_210 : decode cX10_load 210 = .ok (.iconst (-1), 1) := by decide +kernel
theorem dX10_load_211 : decode cX10_load 211 = .ok (.ireturn, 1) := by decide +kernel
theorem dX10_load_212 : decode cX10_load 212 = .ok (.aload_n 0, 1) := by decide +kernel
theorem dX10_load_213 : decode cX10_load 213 = .ok (.getfield 13, 3) := by decide +kernel
theorem dX10_load_216 : decode cX10_load 216 = .ok (.iconst 0, 1) := by decide +kernel
theorem dX10_load_217 : decode cX10_load 217 = .ok (.aload_n 0, 1) := by decide +kernel
theorem dX10_load_218 : decode cX10_load 218 = .ok (.getfield 7, 3) := by decide +kernel
theorem dX10_load_221 : decode cX10_load 221 = .ok (.iconst 0, 1) := by decide +kernel
theorem dX10_load_222 : decode cX10_load 222 = .ok (.invokestatic 50, 3) := by decide +kernel
theorem dX10_load_225 : decode cX10_load 225 = .ok (.aload_n 0, 1) := by decide +kernel
theorem dX10_load_226 : decode cX10_load 226 = .ok (.iconst 0, 1) := by decide +kernel
theorem dX10_load_227 : decode cX10_load 227 = .ok (.putfield 209, 3) := by decide +kernel
theorem dX10_load_230 : decode cX10_load 230 = .ok (.iconst 0, 1) := by decide +kernel
theorem dX10_load_231 : decode cX10_load 231 = .ok (.istore_n 1, 1) := by decide +kernel
theorem dX10_load_232 : decode cX10_load 232 = .ok (.iload_n 1, 1) := by decide +kernel
theorem dX10_load_233 : decode cX10_load 233 = .ok (.iconst 2, 1) := by decide +kernel
theorem dX10_load_234 : decode cX10_load 234 = .ok (.if_icmp .ge 16, 3) := by decide +kernel
theorem dX10_load_237 : decode cX10_load 237 = .ok (.aload_n 0, 1) := by decide +kernel
theorem dX10_load_238 : decode cX10_load 238 = .ok (.getfield 25, 3) := by decide +kernel
theorem dX10_load_241 : decode cX10_load 241 = .ok (.iload_n 1, 1) := by decide +kernel
theorem dX10_load_242 : decode cX10_load 242 = .ok (.iconst 0, 1) := by decide +kernel
theorem dX10_load_243 : decode cX10_load 243 = .ok (.bastore, 1) := by decide +kernel
theorem dX10_load_244 : decode cX10_load 244 = .ok (.iinc 1 1, 3) := by decide +kernel
theorem dX10_load_247 : decode cX10_load 247 = .ok (.goto (-15), 3) := by decide +kernel
theorem dX10_load_250 : decode cX10_load 250 = .ok (.aload_n 0, 1) := by decide +kernel
theorem dX10_load_251 : decode cX10_load 251 = .ok (.getfield 7, 3) := by decide +kernel
theorem dX10_load_254 : decode cX10_load 254 = .ok (.iconst 4, 1) := by decide +kernel
theorem dX10_load_255 : decode cX10_load 255 = .ok (.iaload, 1) := by decide +kernel
theorem dX10_load_256 : decode cX10_load 256 = .ok (.ireturn, 1) := by decide +kernel
theorem dX10_keepForUndo_0 : decode cX10_keepForUndo 0 = .ok (.aload_n 0, 1) := by decide +kernel
theorem dX10_keepForUndo_1 : decode cX10_keepForUndo 1 = .ok (.getfield 209, 3) := by decide +kernel
theorem dX10_keepForUndo_4 : decode cX10_keepForUndo 4 = .ok (.bipush 8, 2) := by decide +kernel
theorem dX10_keepForUndo_6 : decode cX10_keepForUndo 6 = .ok (.if_icmp .ne 50, 3) := by decide +kernel
theorem dX10_keepForUndo_9 : decode cX10_keepForUndo 9 = .ok (.iconst 1, 1) := by decide +kernel
theorem dX10_keepForUndo_10 : decode cX10_keepForUndo 10 = .ok (.istore_n 1, 1) := by decide +kernel
theorem dX10_keepForUndo_11 : decode cX10_keepForUndo 11 = .ok (.iload_n 1, 1) := by decide +kernel
theorem dX10_keepForUndo_12 : decode cX10_keepForUndo 12 = .ok (.bipush 8, 2) := by decide +kernel
theorem dX10_keepForUndo_14 : decode cX10_keepForUndo 14 = .ok (.if_icmp .ge 32, 3) := by decide +kernel
theorem dX10_keepForUndo_17 : decode cX10_keepForUndo 17 = .ok (.aload_n 0, 1) := by decide +kernel
theorem dX10_keepForUndo_18 : decode cX10_keepForUndo 18 = .ok (.getfield 19, 3) := by decide +kernel
theorem dX10_keepForUndo_21 : decode cX10_keepForUndo 21 = .ok (.sipush 336, 3) := by decide +kernel
theorem dX10_keepForUndo_24 : decode cX10_keepForUndo 24 = .ok (.iload_n 1, 1) := by decide +kernel
theorem dX10_keepForUndo_25 : decode cX10_keepForUndo 25 = .ok (.imul, 1) := by decide +kernel
theorem dX10_keepForUndo_26 : decode cX10_keepForUndo 26 = .ok (.aload_n 0, 1) := by decide +kernel
theorem dX10_keepForUndo_27 : decode cX10_keepForUndo 27 = .ok (.getfield 19, 3) := by decide +kernel
theorem dX10_keepForUndo_30 : decode cX10_keepForUndo 30 = .ok (.sipush 336, 3) := by decide +kernel
theorem dX10_keepForUndo_33 : decode cX10_keepForUndo 33 = .ok (.iload_n 1, 1) := by decide +kernel
theorem dX10_keepForUndo_34 : decode cX10_keepForUndo 34 = .ok (.iconst 1, 1) := by decide +kernel
theorem dX10_keepForUndo_35 : decode cX10_keepForUndo 35 = .ok (.isub, 1) := by decide +kernel
theorem dX10_keepForUndo_36 : decode cX10_keepForUndo 36 = .ok (.imul, 1) := by decide +kernel
theorem dX10_keepForUndo_37 : decode cX10_keepForUndo 37 = .ok (.invokestatic 50, 3) := by decide +kernel
theorem dX10_keepForUndo_40 : decode cX10_keepForUndo 40 = .ok (.iinc 1 1, 3) := by decide +kernel
theorem dX10_keepForUndo_43 : decode cX10_keepForUndo 43 = .ok (.goto (-32), 3) := by decide +kernel
theorem dX10_keepForUndo_46 : decode cX10_keepForUndo 46 = .ok (.aload_n 0, 1) := by decide +kernel
theorem dX10_keepForUndo_47 : decode cX10_keepForUndo 47 = .ok (.dup, 1) := by decide +kernel
theorem dX10_keepForUndo_48 : decode cX10_keepForUndo 48 = .ok (.getfield 209, 3) := by decide +kernel
theorem dX10_keepForUndo_51 : decode cX10_keepForUndo 51 = .ok (.iconst 1, 1) := by decide +kernel
theorem dX10_keepForUndo_52 : decode cX10_keepForUndo 52 = .ok (.isub, 1) := by decide +kernel
theorem dX10_keepForUndo_53 : decode cX10_keepForUndo 53 = .ok (.putfield 209, 3) := by decide +kernel
theorem dX10_keepForUndo_56 : decode cX10_keepForUndo 56 = .ok (.aload_n 0, 1) := by decide +kernel
theorem dX10_keepForUndo_57 : decode cX10_keepForUndo 57 = .ok (.getfield 7, 3) := by decide +kernel
theorem dX10_keepForUndo_60 : decode cX10_keepForUndo 60 = .ok (.iconst 0, 1) := by decide +kernel
theorem dX10_keepForUndo_61 : decode cX10_keepForUndo 61 = .ok (.aload_n 0, 1) := by decide +kernel
theorem dX10_keepForUndo_62 : decode cX10_keepForUndo 62 = .ok (.getfield 19, 3) := by decide +kernel
theorem dX10_keepForUndo_65 : decode cX10_keepForUndo 65 = .ok (.sipush 336, 3) := by decide +kernel
theorem dX10_keepForUndo_68 : decode cX10_keepForUndo 68 = .ok (.aload_n 0, 1) := by decide +kernel
theorem dX10_keepForUndo_69 : decode cX10_keepForUndo 69 = .ok (.getfield 209, 3) := by decide +kernel
theorem dX10_keepForUndo_72 : decode cX10_keepForUndo 72 = .ok (.imul, 1) := by decide +kernel
theorem dX10_keepForUndo_73 : decode cX10_keepForUndo 73 = .ok (.invokestatic 50, 3) := by decide +kernel
theorem dX10_keepForUndo_76 : decode cX10_keepForUndo 76 = .ok (.aload_n 0, 1) := by decide +kernel
theorem dX10_keepForUndo_77 : decode cX10_keepForUndo 77 = .ok (.dup, 1) := by decide +kernel
theorem dX10_keepForUndo_78 : decode cX10_keepForUndo 78 = .ok (.getfield 209, 3) := by decide +kernel
theorem dX10_keepForUndo_81 : decode cX10_keepForUndo 81 = .ok (.iconst 1, 1) := by decide +kernel
theorem dX10_keepForUndo_82 : decode cX10_keepForUndo 82 = .ok (.iadd, 1) := by decide +kernel
theorem dX10_keepForUndo_83 : decode cX10_keepForUndo 83 = .ok (.putfield 209, 3) := by decide +kernel
theorem dX10_keepForUndo_86 : decode cX10_keepForUndo 86 = .ok (.return_, 1) := by decide +kernel
theorem dX10_letter_0 : decode cX10_letter 0 = .ok (.aload_n 0, 1) := by decide +kernel
theorem dX10_letter_1 : decode cX10_letter 1 = .ok (.iload_n 1, 1) := by decide +kernel
theorem dX10_letter_2 : decode cX10_letter 2 = .ok (.invokevirtual 212, 3) := by decide +kernel
theorem dX10_letter_5 : decode cX10_letter 5 = .ok (.ifCond .eq 26, 3) := by decide +kernel
theorem dX10_letter_8 : decode cX10_letter 8 = .ok (.aload_n 0, 1) := by decide +kernel
theorem dX10_letter_9 : decode cX10_letter 9 = .ok (.iload_n 2, 1) := by decide +kernel
theorem dX10_letter_10 : decode cX10_letter 10 = .ok (.invokevirtual 212, 3) := by decide +kernel
theorem dX10_letter_13 : decode cX10_letter 13 = .ok (.ifCond .eq 18, 3) := by decide +kernel
theorem dX10_letter_16 : decode cX10_letter 16 = .ok (.iload_n 1, 1) := by decide +kernel
theorem dX10_letter_17 : decode cX10_letter 17 = .ok (.iload_n 2, 1) := by decide +kernel
theorem dX10_letter_18 : decode cX10_letter 18 = .ok (.if_icmp .eq 13, 3) := by decide +kernel
theorem dX10_letter_21 : decode cX10_letter 21 = .ok (.iload_n 3, 1) := by decide +kernel
theorem dX10_letter_22 : decode cX10_letter 22 = .ok (.iconst 1, 1) := by decide +kernel
theorem dX10_letter_23 : decode cX10_letter 23 = .ok (.bipush 9, 2) := by decide +kernel
theorem dX10_letter_25 : decode cX10_letter 25 = .ok (.invokestatic 58, 3) := by decide +kernel
theorem dX10_letter_28 : decode cX10_letter 28 = .ok (.ifCond .ne 5, 3) := by decide +kernel
theorem dX10_letter_31 : decode cX10_letter 31 = .ok (.iconst (-1), 1) := by decide +kernel
theorem dX10_letter_32 : decode cX10_letter 32 = .ok (.ireturn, 1) := by decide +kernel
theorem dX10_letter_33 : decode cX10_letter 33 = .ok (.aload_n 0, 1) := by decide +kernel
theorem dX10_letter_34 : decode cX10_letter 34 = .ok (.getfield 7, 3) := by decide +kernel
theorem dX10_letter_37 : decode cX10_letter 37 = .ok (.iload_n 1, 1) := by decide +kernel
theorem dX10_letter_38 : decode cX10_letter 38 = .ok (.iconst 4, 1) := by decide +kernel
theorem dX10_letter_39 : decode cX10_letter 39 = .ok (.invokestatic 54, 3) := by decide +kernel
theorem dX10_letter_42 : decode cX10_letter 42 = .ok (.iaload, 1) := by decide +kernel
theorem dX10_letter_43 : decode cX10_letter 43 = .ok (.bipush 6, 2) := by decide +kernel
theorem dX10_letter_45 : decode cX10_letter 45 = .ok (.if_icmp .ne 6, 3) := by decide +kernel
theorem dX10_letter_48 : decode cX10_letter 48 = .ok (.bipush (-3), 2) := by decide +kernel
theorem dX10_letter_50 : decode cX10_letter 50 = .ok (.ireturn, 1) := by decide +kernel
theorem dX10_letter_51 : decode cX10_letter 51 = .ok (.aload_n 0, 1) := by decide +kernel
theorem dX10_letter_52 : decode cX10_letter 52 = .ok (.invokevirtual 215, 3) := by decide +kernel
theorem dX10_letter_55 : decode cX10_letter 55 = .ok (.aload_n 0, 1) := by decide +kernel
theorem dX10_letter_56 : decode cX10_letter 56 = .ok (.getfield 7, 3) := by decide +kernel
theorem dX10_letter_59 : decode cX10_letter 59 = .ok (.iload_n 1, 1) := by decide +kernel
theorem dX10_letter_60 : decode cX10_letter 60 = .ok (.iload_n 2, 1) := by decide +kernel
theorem dX10_letter_61 : decode cX10_letter 61 = .ok (.iload_n 3, 1) := by decide +kernel
theorem dX10_letter_62 : decode cX10_letter 62 = .ok (.invokestatic 189, 3) := by decide +kernel
theorem dX10_letter_65 : decode cX10_letter 65 = .ok (.aload_n 0, 1) := by decide +kernel
theorem dX10_letter_66 : decode cX10_letter 66 = .ok (.getfield 7, 3) := by decide +kernel
theorem dX10_letter_69 : decode cX10_letter 69 = .ok (.iconst 0, 1) := by decide +kernel
theorem dX10_letter_70 : decode cX10_letter 70 = .ok (.iload_n 1, 1) := by decide +kernel
theorem dX10_letter_71 : decode cX10_letter 71 = .ok (.iload_n 3, 1) := by decide +kernel
theorem dX10_letter_72 : decode cX10_letter 72 = .ok (.invokestatic 88, 3) := by decide +kernel
theorem dX10_letter_75 : decode cX10_letter 75 = .ok (.aload_n 0, 1) := by decide +kernel
theorem dX10_letter_76 : decode cX10_letter 76 = .ok (.getfield 7, 3) := by decide +kernel
theorem dX10_letter_79 : decode cX10_letter 79 = .ok (.iload_n 1, 1) := by decide +kernel
theorem dX10_letter_80 : decode cX10_letter 80 = .ok (.iconst 4, 1) := by decide +kernel
theorem dX10_letter_81 : decode cX10_letter 81 = .ok (.invokestatic 54, 3) := by decide +kernel
theorem dX10_letter_84 : decode cX10_letter 84 = .ok (.iaload, 1) := by decide +kernel
theorem dX10_letter_85 : decode cX10_letter 85 = .ok (.ireturn, 1) := by decide +kernel
theorem dX10_leftAt_0 : decode cX10_leftAt 0 = .ok (.aload_n 0, 1) := by decide +kernel
theorem dX10_leftAt_1 : decode cX10_leftAt 1 = .ok (.getfield 7, 3) := by decide +kernel
theorem dX10_leftAt_4 : decode cX10_leftAt 4 = .ok (.iload_n 1, 1) := by decide +kernel
theorem dX10_leftAt_5 : decode cX10_leftAt 5 = .ok (.iconst 0, 1) := by decide +kernel
theorem dX10_leftAt_6 : decode cX10_leftAt 6 = .ok (.invokestatic 107, 3) := by decide +kernel
theorem dX10_leftAt_9 : decode cX10_leftAt 9 = .ok (.istore_n 2, 1) := by decide +kernel
theorem dX10_leftAt_10 : decode cX10_leftAt 10 = .ok (.iload_n 2, 1) := by decide +kernel
theorem dX10_leftAt_11 : decode cX10_leftAt 11 = .ok (.ifCond .ge 7, 3) := by decide +kernel
theorem dX10_leftAt_14 : decode cX10_leftAt 14 = .ok (.iconst 0, 1) := by decide +kernel
theorem dX10_leftAt_15 : decode cX10_leftAt 15 = .ok (.goto 13, 3) := by decide +kernel
theorem dX10_leftAt_18 : decode cX10_leftAt 18 = .ok (.aload_n 0, 1) := by decide +kernel
theorem dX10_leftAt_19 : decode cX10_leftAt 19 = .ok (.getfield 7, 3) := by decide +kernel
theorem dX10_leftAt_22 : decode cX10_leftAt 22 = .ok (.iload_n 2, 1) := by decide +kernel
theorem dX10_leftAt_23 : decode cX10_leftAt 23 = .ok (.iconst 4, 1) := by decide +kernel
theorem dX10_leftAt_24 : decode cX10_leftAt 24 = .ok (.invokestatic 66, 3) := by decide +kernel
theorem dX10_leftAt_27 : decode cX10_leftAt 27 = .ok (.iaload, 1) := by decide +kernel
theorem dX10_leftAt_28 : decode cX10_leftAt 28 = .ok (.ireturn, 1) := by decide +kernel
theorem dX10_cancel_0 : decode cX10_cancel 0 = .ok (.aload_n 0, 1) := by decide +kernel
theorem dX10_cancel_1 : decode cX10_cancel 1 = .ok (.iload_n 1, 1) := by decide +kernel
theorem dX10_cancel_2 : decode cX10_cancel 2 = .ok (.invokevirtual 212, 3) := by decide +kernel
theorem dX10_cancel_5 : decode cX10_cancel 5 = .ok (.ifCond .eq 7, 3) := by decide +kernel
theorem dX10_cancel_8 : decode cX10_cancel 8 = .ok (.iload_n 2, 1) := by decide +kernel
theorem dX10_cancel_9 : decode cX10_cancel 9 = .ok (.ifCond .ge 5, 3) := by decide +kernel
theorem dX10_cancel_12 : decode cX10_cancel 12 = .ok (.iconst (-1), 1) := by decide +kernel
theorem dX10_cancel_13 : decode cX10_cancel 13 = .ok (.ireturn, 1) := by decide +kernel
theorem dX10_cancel_14 : decode cX10_cancel 14 = .ok (.iload_n 2, 1) := by decide +kernel
theorem dX10_cancel_15 : decode cX10_cancel 15 = .ok (.aload_n 0, 1) := by decide +kernel
theorem dX10_cancel_16 : decode cX10_cancel 16 = .ok (.getfield 7, 3) := by decide +kernel
theorem dX10_cancel_19 : decode cX10_cancel 19 = .ok (.iload_n 1, 1) := by decide +kernel
theorem dX10_cancel_20 : decode cX10_cancel 20 = .ok (.iconst 4, 1) := by decide +kernel
theorem dX10_cancel_21 : decode cX10_cancel 21 = .ok (.invokestatic 54, 3) := by decide +kernel
theorem dX10_cancel_24 : decode cX10_cancel 24 = .ok (.iaload, 1) := by decide +kernel
theorem dX10_cancel_25 : decode cX10_cancel 25 = .ok (.if_icmp .lt 6, 3) := by decide +kernel
theorem dX10_cancel_28 : decode cX10_cancel 28 = .ok (.bipush (-2), 2) := by decide +kernel
theorem dX10_cancel_30 : decode cX10_cancel 30 = .ok (.ireturn, 1) := by decide +kernel
theorem dX10_cancel_31 : decode cX10_cancel 31 = .ok (.iload_n 2, 1) := by decide +kernel
theorem dX10_cancel_32 : decode cX10_cancel 32 = .ok (.ifCond .ne 14, 3) := by decide +kernel
theorem dX10_cancel_35 : decode cX10_cancel 35 = .ok (.aload_n 0, 1) := by decide +kernel
theorem dX10_cancel_36 : decode cX10_cancel 36 = .ok (.iload_n 1, 1) := by decide +kernel
theorem dX10_cancel_37 : decode cX10_cancel 37 = .ok (.invokevirtual 218, 3) := by decide +kernel
theorem dX10_cancel_40 : decode cX10_cancel 40 = .ok (.ifCond .le 6, 3) := by decide +kernel
theorem dX10_cancel_43 : decode cX10_cancel 43 = .ok (.bipush (-4), 2) := by decide +kernel
theorem dX10_cancel_45 : decode cX10_cancel 45 = .ok (.ireturn, 1) := by decide +kernel
theorem dX10_cancel_46 : decode cX10_cancel 46 = .ok (.aload_n 0, 1) := by decide +kernel
theorem dX10_cancel_47 : decode cX10_cancel 47 = .ok (.invokevirtual 215, 3) := by decide +kernel
theorem dX10_cancel_50 : decode cX10_cancel 50 = .ok (.aload_n 0, 1) := by decide +kernel
theorem dX10_cancel_51 : decode cX10_cancel 51 = .ok (.getfield 7, 3) := by decide +kernel
theorem dX10_cancel_54 : decode cX10_cancel 54 = .ok (.iload_n 1, 1) := by decide +kernel
theorem dX10_cancel_55 : decode cX10_cancel 55 = .ok (.iload_n 2, 1) := by decide +kernel
theorem dX10_cancel_56 : decode cX10_cancel 56 = .ok (.iconst 1, 1) := by decide +kernel
theorem dX10_cancel_57 : decode cX10_cancel 57 = .ok (.invokestatic 62, 3) := by decide +kernel
theorem dX10_cancel_60 : decode cX10_cancel 60 = .ok (.iaload, 1) := by decide +kernel
theorem dX10_cancel_61 : decode cX10_cancel 61 = .ok (.istore_n 3, 1) := by decide +kernel
theorem dX10_cancel_62 : decode cX10_cancel 62 = .ok (.aload_n 0, 1) := by decide +kernel
theorem dX10_cancel_63 : decode cX10_cancel 63 = .ok (.getfield 7, 3) := by decide +kernel
theorem dX10_cancel_66 : decode cX10_cancel 66 = .ok (.iload_n 1, 1) := by decide +kernel
theorem dX10_cancel_67 : decode cX10_cancel 67 = .ok (.iload_n 2, 1) := by decide +kernel
theorem dX10_cancel_68 : decode cX10_cancel 68 = .ok (.invokestatic 84, 3) := by decide +kernel
theorem dX10_cancel_71 : decode cX10_cancel 71 = .ok (.aload_n 0, 1) := by decide +kernel
theorem dX10_cancel_72 : decode cX10_cancel 72 = .ok (.getfield 7, 3) := by decide +kernel
theorem dX10_cancel_75 : decode cX10_cancel 75 = .ok (.bipush 11, 2) := by decide +kernel
theorem dX10_cancel_77 : decode cX10_cancel 77 = .ok (.dup2, 1) := by decide +kernel
theorem dX10_cancel_78 : decode cX10_cancel 78 = .ok (.iaload, 1) := by decide +kernel
theorem dX10_cancel_79 : decode cX10_cancel 79 = .ok (.iconst 1, 1) := by decide +kernel
theorem dX10_cancel_80 : decode cX10_cancel 80 = .ok (.iadd, 1) := by decide +kernel
theorem dX10_cancel_81 : decode cX10_cancel 81 = .ok (.iastore, 1) := by decide +kernel
theorem dX10_cancel_82 : decode cX10_cancel 82 = .ok (.aload_n 0, 1) := by decide +kernel
theorem dX10_cancel_83 : decode cX10_cancel 83 = .ok (.getfield 7, 3) := by decide +kernel
theorem dX10_cancel_86 : decode cX10_cancel 86 = .ok (.bipush 9, 2) := by decide +kernel
theorem dX10_cancel_88 : decode cX10_cancel 88 = .ok (.iload_n 1, 1) := by decide +kernel
theorem dX10_cancel_89 : decode cX10_cancel 89 = .ok (.iload_n 3, 1) := by decide +kernel
theorem dX10_cancel_90 : decode cX10_cancel 90 = .ok (.invokestatic 88, 3) := by decide +kernel
theorem dX10_cancel_93 : decode cX10_cancel 93 = .ok (.aload_n 0, 1) := by decide +kernel
theorem dX10_cancel_94 : decode cX10_cancel 94 = .ok (.getfield 7, 3) := by decide +kernel
theorem dX10_cancel_97 : decode cX10_cancel 97 = .ok (.iload_n 1, 1) := by decide +kernel
theorem dX10_cancel_98 : decode cX10_cancel 98 = .ok (.iconst 4, 1) := by decide +kernel
theorem dX10_cancel_99 : decode cX10_cancel 99 = .ok (.invokestatic 54, 3) := by decide +kernel
theorem dX10_cancel_102 : decode cX10_cancel 102 = .ok (.iaload, 1) := by decide +kernel
theorem dX10_cancel_103 : decode cX10_cancel 103 = .ok (.ireturn, 1) := by decide +kernel
theorem dX10_shut_0 : decode cX10_shut 0 = .ok (.aload_n 0, 1) := by decide +kernel
theorem dX10_shut_1 : decode cX10_shut 1 = .ok (.iload_n 1, 1) := by decide +kernel
theorem dX10_shut_2 : decode cX10_shut 2 = .ok (.invokevirtual 212, 3) := by decide +kernel
theorem dX10_shut_5 : decode cX10_shut 5 = .ok (.ifCond .eq 12, 3) := by decide +kernel
theorem dX10_shut_8 : decode cX10_shut 8 = .ok (.iload_n 2, 1) := by decide +kernel
theorem dX10_shut_9 : decode cX10_shut 9 = .ok (.iconst 0, 1) := by decide +kernel
theorem dX10_shut_10 : decode cX10_shut 10 = .ok (.iconst 1, 1) := by decide +kernel
theorem dX10_shut_11 : decode cX10_shut 11 = .ok (.invokestatic 58, 3) := by decide +kernel
theorem dX10_shut_14 : decode cX10_shut 14 = .ok (.ifCond .ne 5, 3) := by decide +kernel
theorem dX10_shut_17 : decode cX10_shut 17 = .ok (.iconst (-1), 1) := by decide +kernel
theorem dX10_shut_18 : decode cX10_shut 18 = .ok (.ireturn, 1) := by decide +kernel
theorem dX10_shut_19 : decode cX10_shut 19 = .ok (.aload_n 0, 1) := by decide +kernel
theorem dX10_shut_20 : decode cX10_shut 20 = .ok (.getfield 7, 3) := by decide +kernel
theorem dX10_shut_23 : decode cX10_shut 23 = .ok (.iload_n 1, 1) := by decide +kernel
theorem dX10_shut_24 : decode cX10_shut 24 = .ok (.iconst 2, 1) := by decide +kernel
theorem dX10_shut_25 : decode cX10_shut 25 = .ok (.invokestatic 54, 3) := by decide +kernel
theorem dX10_shut_28 : decode cX10_shut 28 = .ok (.iaload, 1) := by decide +kernel
theorem dX10_shut_29 : decode cX10_shut 29 = .ok (.iload_n 2, 1) := by decide +kernel
theorem dX10_shut_30 : decode cX10_shut 30 = .ok (.if_icmp .ne 6, 3) := by decide +kernel
theorem dX10_shut_33 : decode cX10_shut 33 = .ok (.bipush (-2), 2) := by decide +kernel
theorem dX10_shut_35 : decode cX10_shut 35 = .ok (.ireturn, 1) := by decide +kernel
theorem dX10_shut_36 : decode cX10_shut 36 = .ok (.aload_n 0, 1) := by decide +kernel
theorem dX10_shut_37 : decode cX10_shut 37 = .ok (.invokevirtual 215, 3) := by decide +kernel
theorem dX10_shut_40 : decode cX10_shut 40 = .ok (.aload_n 0, 1) := by decide +kernel
theorem dX10_shut_41 : decode cX10_shut 41 = .ok (.getfield 7, 3) := by decide +kernel
theorem dX10_shut_44 : decode cX10_shut 44 = .ok (.iload_n 1, 1) := by decide +kernel
theorem dX10_shut_45 : decode cX10_shut 45 = .ok (.iload_n 2, 1) := by decide +kernel
theorem dX10_shut_46 : decode cX10_shut 46 = .ok (.invokestatic 222, 3) := by decide +kernel
theorem dX10_shut_49 : decode cX10_shut 49 = .ok (.ireturn, 1) := by decide +kernel
theorem dX10_lose_0 : decode cX10_lose 0 = .ok (.aload_n 0, 1) := by decide +kernel
theorem dX10_lose_1 : decode cX10_lose 1 = .ok (.iload_n 1, 1) := by decide +kernel
theorem dX10_lose_2 : decode cX10_lose 2 = .ok (.invokevirtual 225, 3) := by decide +kernel
theorem dX10_lose_5 : decode cX10_lose 5 = .ok (.ifCond .ne 5, 3) := by decide +kernel
theorem dX10_lose_8 : decode cX10_lose 8 = .ok (.iconst (-1), 1) := by decide +kernel
theorem dX10_lose_9 : decode cX10_lose 9 = .ok (.ireturn, 1) := by decide +kernel
theorem dX10_lose_10 : decode cX10_lose 10 = .ok (.aload_n 0, 1) := by decide +kernel
theorem dX10_lose_11 : decode cX10_lose 11 = .ok (.invokevirtual 215, 3) := by decide +kernel
theorem dX10_lose_14 : decode cX10_lose 14 = .ok (.aload_n 0, 1) := by decide +kernel
theorem dX10_lose_15 : decode cX10_lose 15 = .ok (.getfield 7, 3) := by decide +kernel
theorem dX10_lose_18 : decode cX10_lose 18 = .ok (.iload_n 1, 1) := by decide +kernel
theorem dX10_lose_19 : decode cX10_lose 19 = .ok (.iconst 0, 1) := by decide +kernel
theorem dX10_lose_20 : decode cX10_lose 20 = .ok (.invokestatic 66, 3) := by decide +kernel
theorem dX10_lose_23 : decode cX10_lose 23 = .ok (.iaload, 1) := by decide +kernel
theorem dX10_lose_24 : decode cX10_lose 24 = .ok (.istore_n 2, 1) := by decide +kernel
theorem dX10_lose_25 : decode cX10_lose 25 = .ok (.aload_n 0, 1) := by decide +kernel
theorem dX10_lose_26 : decode cX10_lose 26 = .ok (.getfield 7, 3) := by decide +kernel
theorem dX10_lose_29 : decode cX10_lose 29 = .ok (.iload_n 1, 1) := by decide +kernel
theorem dX10_lose_30 : decode cX10_lose 30 = .ok (.invokestatic 136, 3) := by decide +kernel
theorem dX10_lose_33 : decode cX10_lose 33 = .ok (.iload_n 2, 1) := by decide +kernel
theorem dX10_lose_34 : decode cX10_lose 34 = .ok (.ireturn, 1) := by decide +kernel
theorem dX10_stray_0 : decode cX10_stray 0 = .ok (.aload_n 0, 1) := by decide +kernel
theorem dX10_stray_1 : decode cX10_stray 1 = .ok (.iload_n 1, 1) := by decide +kernel
theorem dX10_stray_2 : decode cX10_stray 2 = .ok (.invokevirtual 212, 3) := by decide +kernel
theorem dX10_stray_5 : decode cX10_stray 5 = .ok (.ifCond .ne 5, 3) := by decide +kernel
theorem dX10_stray_8 : decode cX10_stray 8 = .ok (.iconst (-1), 1) := by decide +kernel
theorem dX10_stray_9 : decode cX10_stray 9 = .ok (.ireturn, 1) := by decide +kernel
theorem dX10_stray_10 : decode cX10_stray 10 = .ok (.aload_n 0, 1) := by decide +kernel
theorem dX10_stray_11 : decode cX10_stray 11 = .ok (.getfield 7, 3) := by decide +kernel
theorem dX10_stray_14 : decode cX10_stray 14 = .ok (.iload_n 1, 1) := by decide +kernel
theorem dX10_stray_15 : decode cX10_stray 15 = .ok (.invokestatic 73, 3) := by decide +kernel
theorem dX10_stray_18 : decode cX10_stray 18 = .ok (.ifCond .ne 6, 3) := by decide +kernel
theorem dX10_stray_21 : decode cX10_stray 21 = .ok (.bipush (-4), 2) := by decide +kernel
theorem dX10_stray_23 : decode cX10_stray 23 = .ok (.ireturn, 1) := by decide +kernel
theorem dX10_stray_24 : decode cX10_stray 24 = .ok (.aload_n 0, 1) := by decide +kernel
theorem dX10_stray_25 : decode cX10_stray 25 = .ok (.getfield 7, 3) := by decide +kernel
theorem dX10_stray_28 : decode cX10_stray 28 = .ok (.iconst 5, 1) := by decide +kernel
theorem dX10_stray_29 : decode cX10_stray 29 = .ok (.iaload, 1) := by decide +kernel
theorem dX10_stray_30 : decode cX10_stray 30 = .ok (.iconst 3, 1) := by decide +kernel
theorem dX10_stray_31 : decode cX10_stray 31 = .ok (.if_icmp .ne 6, 3) := by decide +kernel
theorem dX10_stray_34 : decode cX10_stray 34 = .ok (.bipush (-3), 2) := by decide +kernel
theorem dX10_stray_36 : decode cX10_stray 36 = .ok (.ireturn, 1) := by decide +kernel
theorem dX10_stray_37 : decode cX10_stray 37 = .ok (.aload_n 0, 1) := by decide +kernel
theorem dX10_stray_38 : decode cX10_stray 38 = .ok (.invokevirtual 215, 3) := by decide +kernel
theorem dX10_stray_41 : decode cX10_stray 41 = .ok (.aload_n 0, 1) := by decide +kernel
theorem dX10_stray_42 : decode cX10_stray 42 = .ok (.getfield 7, 3) := by decide +kernel
theorem dX10_stray_45 : decode cX10_stray 45 = .ok (.iload_n 1, 1) := by decide +kernel
theorem dX10_stray_46 : decode cX10_stray 46 = .ok (.iconst 0, 1) := by decide +kernel
theorem dX10_stray_47 : decode cX10_stray 47 = .ok (.invokestatic 107, 3) := by decide +kernel
theorem dX10_stray_50 : decode cX10_stray 50 = .ok (.istore_n 2, 1) := by decide +kernel
theorem dX10_stray_51 : decode cX10_stray 51 = .ok (.aload_n 0, 1) := by decide +kernel
theorem dX10_stray_52 : decode cX10_stray 52 = .ok (.getfield 7, 3) := by decide +kernel
theorem dX10_stray_55 : decode cX10_stray 55 = .ok (.iload_n 1, 1) := by decide +kernel
theorem dX10_stray_56 : decode cX10_stray 56 = .ok (.invokestatic 43, 3) := by decide +kernel
theorem dX10_stray_59 : decode cX10_stray 59 = .ok (.istore_n 3, 1) := by decide +kernel
theorem dX10_stray_60 : decode cX10_stray 60 = .ok (.aload_n 0, 1) := by decide +kernel
theorem dX10_stray_61 : decode cX10_stray 61 = .ok (.getfield 7, 3) := by decide +kernel
theorem dX10_stray_64 : decode cX10_stray 64 = .ok (.bipush 6, 2) := by decide +kernel
theorem dX10_stray_66 : decode cX10_stray 66 = .ok (.iload_n 3, 1) := by decide +kernel
theorem dX10_stray_67 : decode cX10_stray 67 = .ok (.iload_n 1, 1) := by decide +kernel
theorem dX10_stray_68 : decode cX10_stray 68 = .ok (.invokestatic 88, 3) := by decide +kernel
theorem dX10_stray_71 : decode cX10_stray 71 = .ok (.iload_n 2, 1) := by decide +kernel
theorem dX10_stray_72 : decode cX10_stray 72 = .ok (.ifCond .lt 11, 3) := by decide +kernel
theorem dX10_stray_75 : decode cX10_stray 75 = .ok (.aload_n 0, 1) := by decide +kernel
theorem dX10_stray_76 : decode cX10_stray 76 = .ok (.getfield 7, 3) := by decide +kernel
theorem dX10_stray_79 : decode cX10_stray 79 = .ok (.iload_n 2, 1) := by decide +kernel
theorem dX10_stray_80 : decode cX10_stray 80 = .ok (.invokestatic 124, 3) := by decide +kernel
theorem dX10_stray_83 : decode cX10_stray 83 = .ok (.iload_n 3, 1) := by decide +kernel
theorem dX10_stray_84 : decode cX10_stray 84 = .ok (.ireturn, 1) := by decide +kernel
theorem dX10_minute_0 : decode cX10_minute 0 = .ok (.iload_n 1, 1) := by decide +kernel
theorem dX10_minute_1 : decode cX10_minute 1 = .ok (.iconst 1, 1) := by decide +kernel
theorem dX10_minute_2 : decode cX10_minute 2 = .ok (.bipush 100, 2) := by decide +kernel
theorem dX10_minute_4 : decode cX10_minute 4 = .ok (.invokestatic 58, 3) := by decide +kernel
theorem dX10_minute_7 : decode cX10_minute 7 = .ok (.ifCond .ne 5, 3) := by decide +kernel
theorem dX10_minute_10 : decode cX10_minute 10 = .ok (.iconst (-1), 1) := by decide +kernel
theorem dX10_minute_11 : decode cX10_minute 11 = .ok (.ireturn, 1) := by decide +kernel
theorem dX10_minute_12 : decode cX10_minute 12 = .ok (.aload_n 0, 1) := by decide +kernel
theorem dX10_minute_13 : decode cX10_minute 13 = .ok (.getfield 7, 3) := by decide +kernel
theorem dX10_minute_16 : decode cX10_minute 16 = .ok (.iconst 3, 1) := by decide +kernel
theorem dX10_minute_17 : decode cX10_minute 17 = .ok (.iaload, 1) := by decide +kernel
theorem dX10_minute_18 : decode cX10_minute 18 = .ok (.iload_n 1, 1) := by decide +kernel
theorem dX10_minute_19 : decode cX10_minute 19 = .ok (.iadd, 1) := by decide +kernel
theorem dX10_minute_20 : decode cX10_minute 20 = .ok (.sipush 9999, 3) := by decide +kernel
theorem dX10_minute_23 : decode cX10_minute 23 = .ok (.if_icmp .le 6, 3) := by decide +kernel
theorem dX10_minute_26 : decode cX10_minute 26 = .ok (.bipush (-3), 2) := by decide +kernel
theorem dX10_minute_28 : decode cX10_minute 28 = .ok (.ireturn, 1) := by decide +kernel
theorem dX10_minute_29 : decode cX10_minute 29 = .ok (.aload_n 0, 1) := by decide +kernel
theorem dX10_minute_30 : decode cX10_minute 30 = .ok (.invokevirtual 215, 3) := by decide +kernel
theorem dX10_minute_33 : decode cX10_minute 33 = .ok (.aload_n 0, 1) := by decide +kernel
theorem dX10_minute_34 : decode cX10_minute 34 = .ok (.getfield 7, 3) := by decide +kernel
theorem dX10_minute_37 : decode cX10_minute 37 = .ok (.bipush 9, 2) := by decide +kernel
theorem dX10_minute_39 : decode cX10_minute 39 = .ok (.iaload, 1) := by decide +kernel
theorem dX10_minute_40 : decode cX10_minute 40 = .ok (.istore_n 2, 1) := by decide +kernel
theorem dX10_minute_41 : decode cX10_minute 41 = .ok (.aload_n 0, 1) := by decide +kernel
theorem dX10_minute_42 : decode cX10_minute 42 = .ok (.getfield 7, 3) := by decide +kernel
theorem dX10_minute_45 : decode cX10_minute 45 = .ok (.iload_n 1, 1) := by decide +kernel
theorem dX10_minute_46 : decode cX10_minute 46 = .ok (.invokestatic 228, 3) := by decide +kernel
theorem dX10_minute_49 : decode cX10_minute 49 = .ok (.aload_n 0, 1) := by decide +kernel
theorem dX10_minute_50 : decode cX10_minute 50 = .ok (.getfield 7, 3) := by decide +kernel
theorem dX10_minute_53 : decode cX10_minute 53 = .ok (.bipush 9, 2) := by decide +kernel
theorem dX10_minute_55 : decode cX10_minute 55 = .ok (.iaload, 1) := by decide +kernel
theorem dX10_minute_56 : decode cX10_minute 56 = .ok (.iload_n 2, 1) := by decide +kernel
theorem dX10_minute_57 : decode cX10_minute 57 = .ok (.isub, 1) := by decide +kernel
theorem dX10_minute_58 : decode cX10_minute 58 = .ok (.ireturn, 1) := by decide +kernel
theorem dX10_set_0 : decode cX10_set 0 = .ok (.aload_n 0, 1) := by decide +kernel
theorem dX10_set_1 : decode cX10_set 1 = .ok (.iload_n 1, 1) := by decide +kernel
theorem dX10_set_2 : decode cX10_set 2 = .ok (.invokevirtual 212, 3) := by decide +kernel
theorem dX10_set_5 : decode cX10_set 5 = .ok (.ifCond .eq 35, 3) := by decide +kernel
theorem dX10_set_8 : decode cX10_set 8 = .ok (.iload_n 2, 1) := by decide +kernel
theorem dX10_set_9 : decode cX10_set 9 = .ok (.ifCond .ne 16, 3) := by decide +kernel
theorem dX10_set_12 : decode cX10_set 12 = .ok (.iload_n 3, 1) := by decide +kernel
theorem dX10_set_13 : decode cX10_set 13 = .ok (.iconst 1, 1) := by decide +kernel
theorem dX10_set_14 : decode cX10_set 14 = .ok (.bipush 9, 2) := by decide +kernel
theorem dX10_set_16 : decode cX10_set 16 = .ok (.invokestatic 58, 3) := by decide +kernel
theorem dX10_set_19 : decode cX10_set 19 = .ok (.ifCond .eq 21, 3) := by decide +kernel
theorem dX10_set_22 : decode cX10_set 22 = .ok (.goto 20, 3) := by decide +kernel
theorem dX10_set_25 : decode cX10_set 25 = .ok (.iload_n 2, 1) := by decide +kernel
theorem dX10_set_26 : decode cX10_set 26 = .ok (.iconst 1, 1) := by decide +kernel
theorem dX10_set_27 : decode cX10_set 27 = .ok (.if_icmp .ne 13, 3) := by decide +kernel
theorem dX10_set_30 : decode cX10_set 30 = .ok (.iload_n 3, 1) := by decide +kernel
theorem dX10_set_31 : decode cX10_set 31 = .ok (.iconst 1, 1) := by decide +kernel
theorem dX10_set_32 : decode cX10_set 32 = .ok (.bipush 99, 2) := by decide +kernel
theorem dX10_set_34 : decode cX10_set 34 = .ok (.invokestatic 58, 3) := by decide +kernel
theorem dX10_set_37 : decode cX10_set 37 = .ok (.ifCond .ne 5, 3) := by decide +kernel
theorem dX10_set_40 : decode cX10_set 40 = .ok (.iconst (-1), 1) := by decide +kernel
theorem dX10_set_41 : decode cX10_set 41 = .ok (.ireturn, 1) := by decide +kernel
theorem dX10_set_42 : decode cX10_set 42 = .ok (.aload_n 0, 1) := by decide +kernel
theorem dX10_set_43 : decode cX10_set 43 = .ok (.getfield 7, 3) := by decide +kernel
theorem dX10_set_46 : decode cX10_set 46 = .ok (.iload_n 1, 1) := by decide +kernel
theorem dX10_set_47 : decode cX10_set 47 = .ok (.iload_n 2, 1) := by decide +kernel
theorem dX10_set_48 : decode cX10_set 48 = .ok (.invokestatic 54, 3) := by decide +kernel
theorem dX10_set_51 : decode cX10_set 51 = .ok (.iaload, 1) := by decide +kernel
theorem dX10_set_52 : decode cX10_set 52 = .ok (.istore 4, 2) := by decide +kernel
theorem dX10_set_54 : decode cX10_set 54 = .ok (.iload 4, 2) := by decide +kernel
theorem dX10_set_56 : decode cX10_set 56 = .ok (.iload_n 3, 1) := by decide +kernel
theorem dX10_set_57 : decode cX10_set 57 = .ok (.if_icmp .ne 6, 3) := by decide +kernel
theorem dX10_set_60 : decode cX10_set 60 = .ok (.bipush (-2), 2) := by decide +kernel
theorem dX10_set_62 : decode cX10_set 62 = .ok (.ireturn, 1) := by decide +kernel
theorem dX10_set_63 : decode cX10_set 63 = .ok (.iload_n 2, 1) := by decide +kernel
theorem dX10_set_64 : decode cX10_set 64 = .ok (.iconst 1, 1) := by decide +kernel
theorem dX10_set_65 : decode cX10_set 65 = .ok (.if_icmp .ne 17, 3) := by decide +kernel
theorem dX10_set_68 : decode cX10_set 68 = .ok (.aload_n 0, 1) := by decide +kernel
theorem dX10_set_69 : decode cX10_set 69 = .ok (.getfield 7, 3) := by decide +kernel
theorem dX10_set_72 : decode cX10_set 72 = .ok (.iload_n 3, 1) := by decide +kernel
theorem dX10_set_73 : decode cX10_set 73 = .ok (.invokestatic 185, 3) := by decide +kernel
theorem dX10_set_76 : decode cX10_set 76 = .ok (.ifCond .eq 6, 3) := by decide +kernel
theorem dX10_set_79 : decode cX10_set 79 = .ok (.bipush (-4), 2) := by decide +kernel
theorem dX10_set_81 : decode cX10_set 81 = .ok (.ireturn, 1) := by decide +kernel
theorem dX10_set_82 : decode cX10_set 82 = .ok (.aload_n 0, 1) := by decide +kernel
theorem dX10_set_83 : decode cX10_set 83 = .ok (.invokevirtual 215, 3) := by decide +kernel
theorem dX10_set_86 : decode cX10_set 86 = .ok (.aload_n 0, 1) := by decide +kernel
theorem dX10_set_87 : decode cX10_set 87 = .ok (.getfield 7, 3) := by decide +kernel
theorem dX10_set_90 : decode cX10_set 90 = .ok (.iload_n 1, 1) := by decide +kernel
theorem dX10_set_91 : decode cX10_set 91 = .ok (.iload_n 2, 1) := by decide +kernel
theorem dX10_set_92 : decode cX10_set 92 = .ok (.invokestatic 54, 3) := by decide +kernel
theorem dX10_set_95 : decode cX10_set 95 = .ok (.iload_n 3, 1) := by decide +kernel
theorem dX10_set_96 : decode cX10_set 96 = .ok (.iastore, 1) := by decide +kernel
theorem dX10_set_97 : decode cX10_set 97 = .ok (.aload_n 0, 1) := by decide +kernel
theorem dX10_set_98 : decode cX10_set 98 = .ok (.getfield 7, 3) := by decide +kernel
theorem dX10_set_101 : decode cX10_set 101 = .ok (.bipush 10, 2) := by decide +kernel
theorem dX10_set_103 : decode cX10_set 103 = .ok (.bipush 10, 2) := by decide +kernel
theorem dX10_set_105 : decode cX10_set 105 = .ok (.iload_n 1, 1) := by decide +kernel
theorem dX10_set_106 : decode cX10_set 106 = .ok (.imul, 1) := by decide +kernel
theorem dX10_set_107 : decode cX10_set 107 = .ok (.iload_n 2, 1) := by decide +kernel
theorem dX10_set_108 : decode cX10_set 108 = .ok (.iadd, 1) := by decide +kernel
theorem dX10_set_109 : decode cX10_set 109 = .ok (.iload 4, 2) := by decide +kernel
theorem dX10_set_111 : decode cX10_set 111 = .ok (.invokestatic 88, 3) := by decide +kernel
theorem dX10_set_114 : decode cX10_set 114 = .ok (.iload 4, 2) := by decide +kernel
theorem dX10_set_116 : decode cX10_set 116 = .ok (.ireturn, 1) := by decide +kernel
theorem dX10_isRule_0 : decode cX10_isRule 0 = .ok (.iload_n 0, 1) := by decide +kernel
theorem dX10_isRule_1 : decode cX10_isRule 1 = .ok (.tableswitch 51 0 2 #[27, 35, 43], 27) := by decide +kernel
theorem dX10_isRule_28 : decode cX10_isRule 28 = .ok (.iload_n 1, 1) := by decide +kernel
theorem dX10_isRule_29 : decode cX10_isRule 29 = .ok (.iconst 1, 1) := by decide +kernel
theorem dX10_isRule_30 : decode cX10_isRule 30 = .ok (.bipush 20, 2) := by decide +kernel
theorem dX10_isRule_32 : decode cX10_isRule 32 = .ok (.invokestatic 58, 3) := by decide +kernel
theorem dX10_isRule_35 : decode cX10_isRule 35 = .ok (.ireturn, 1) := by decide +kernel
theorem dX10_isRule_36 : decode cX10_isRule 36 = .ok (.iload_n 1, 1) := by decide +kernel
theorem dX10_isRule_37 : decode cX10_isRule 37 = .ok (.iconst 1, 1) := by decide +kernel
theorem dX10_isRule_38 : decode cX10_isRule 38 = .ok (.bipush 99, 2) := by decide +kernel
theorem dX10_isRule_40 : decode cX10_isRule 40 = .ok (.invokestatic 58, 3) := by decide +kernel
theorem dX10_isRule_43 : decode cX10_isRule 43 = .ok (.ireturn, 1) := by decide +kernel
