theorem dX0_init_0 : decode cX0_init 0 = .ok (.aload_n 0, 1) := by decide +kernel
theorem dX0_init_1 : decode cX0_init 1 = .ok (.invokespecial 5, 3) := by decide +kernel
theorem dX0_init_4 : decode cX0_init 4 = .ok (.aload_n 0, 1) := by decide +kernel
theorem dX0_init_5 : decode cX0_init 5 = .ok (.iconst 3, 1) := by decide +kernel
theorem dX0_init_6 : decode cX0_init 6 = .ok (.putfield 11, 3) := by decide +kernel
theorem dX0_init_9 : decode cX0_init 9 = .ok (.aload_n 0, 1) := by decide +kernel
theorem dX0_init_10 : decode cX0_init 10 = .ok (.iconst 4, 1) := by decide +kernel
theorem dX0_init_11 : decode cX0_init 11 = .ok (.putfield 15, 3) := by decide +kernel
theorem dX0_init_14 : decode cX0_init 14 = .ok (.aload_n 0, 1) := by decide +kernel
theorem dX0_init_15 : decode cX0_init 15 = .ok (.iconst 2, 1) := by decide +kernel
theorem dX0_init_16 : decode cX0_init 16 = .ok (.putfield 18, 3) := by decide +kernel
theorem dX0_init_19 : decode cX0_init 19 = .ok (.aload_n 0, 1) := by decide +kernel
theorem dX0_init_20 : decode cX0_init 20 = .ok (.new 21, 3) := by decide +kernel
theorem dX0_init_23 : decode cX0_init 23 = .ok (.dup, 1) := by decide +kernel
theorem dX0_init_24 : decode cX0_init 24 = .ok (.invokespecial 23, 3) := by decide +kernel
theorem dX0_init_27 : decode cX0_init 27 = .ok (.putfield 24, 3) := by decide +kernel
theorem dX0_init_30 : decode cX0_init 30 = .ok (.aload_n 0, 1) := by decide +kernel
theorem dX0_init_31 : decode cX0_init 31 = .ok (.new 28, 3) := by decide +kernel
theorem dX0_init_34 : decode cX0_init 34 = .ok (.dup, 1) := by decide +kernel
theorem dX0_init_35 : decode cX0_init 35 = .ok (.invokespecial 30, 3) := by decide +kernel
theorem dX0_init_38 : decode cX0_init 38 = .ok (.putfield 31, 3) := by decide +kernel
theorem dX0_init_41 : decode cX0_init 41 = .ok (.aload_n 0, 1) := by decide +kernel
theorem dX0_init_42 : decode cX0_init 42 = .ok (.new 35, 3) := by decide +kernel
theorem dX0_init_45 : decode cX0_init 45 = .ok (.dup, 1) := by decide +kernel
theorem dX0_init_46 : decode cX0_init 46 = .ok (.invokespecial 37, 3) := by decide +kernel
theorem dX0_init_49 : decode cX0_init 49 = .ok (.putfield 38, 3) := by decide +kernel
theorem dX0_init_52 : decode cX0_init 52 = .ok (.aload_n 0, 1) := by decide +kernel
theorem dX0_init_53 : decode cX0_init 53 = .ok (.bipush 7, 2) := by decide +kernel
theorem dX0_init_55 : decode cX0_init 55 = .ok (.newarray .int, 2) := by decide +kernel
theorem dX0_init_57 : decode cX0_init 57 = .ok (.putfield 42, 3) := by decide +kernel
theorem dX0_init_60 : decode cX0_init 60 = .ok (.aload_n 0, 1) := by decide +kernel
theorem dX0_init_61 : decode cX0_init 61 = .ok (.sipush 1024, 3) := by decide +kernel
theorem dX0_init_64 : decode cX0_init 64 = .ok (.newarray .int, 2) := by decide +kernel
theorem dX0_init_66 : decode cX0_init 66 = .ok (.putfield 46, 3) := by decide +kernel
theorem dX0_init_69 : decode cX0_init 69 = .ok (.return_, 1) := by decide +kernel
theorem dX0_clear_0 : decode cX0_clear 0 = .ok (.aload_n 0, 1) := by decide +kernel
theorem dX0_clear_1 : decode cX0_clear 1 = .ok (.iconst 3, 1) := by decide +kernel
theorem dX0_clear_2 : decode cX0_clear 2 = .ok (.putfield 11, 3) := by decide +kernel
theorem dX0_clear_5 : decode cX0_clear 5 = .ok (.aload_n 0, 1) := by decide +kernel
theorem dX0_clear_6 : decode cX0_clear 6 = .ok (.iconst 4, 1) := by decide +kernel
theorem dX0_clear_7 : decode cX0_clear 7 = .ok (.putfield 15, 3) := by decide +kernel
theorem dX0_clear_10 : decode cX0_clear 10 = .ok (.aload_n 0, 1) := by decide +kernel
theorem dX0_clear_11 : decode cX0_clear 11 = .ok (.iconst 2, 1) := by decide +kernel
theorem dX0_clear_12 : decode cX0_clear 12 = .ok (.putfield 18, 3) := by decide +kernel
theorem dX0_clear_15 : decode cX0_clear 15 = .ok (.aload_n 0, 1) := by decide +kernel
theorem dX0_clear_16 : decode cX0_clear 16 = .ok (.iconst 0, 1) := by decide +kernel
theorem dX0_clear_17 : decode cX0_clear 17 = .ok (.putfield 49, 3) := by decide +kernel
theorem dX0_clear_20 : decode cX0_clear 20 = .ok (.aload_n 0, 1) := by decide +kernel
theorem dX0_clear_21 : decode cX0_clear 21 = .ok (.iconst 0, 1) := by decide +kernel
theorem dX0_clear_22 : decode cX0_clear 22 = .ok (.putfield 52, 3) := by decide +kernel
theorem dX0_clear_25 : decode cX0_clear 25 = .ok (.aload_n 0, 1) := by decide +kernel
theorem dX0_clear_26 : decode cX0_clear 26 = .ok (.iconst 0, 1) := by decide +kernel
theorem dX0_clear_27 : decode cX0_clear 27 = .ok (.putfield 55, 3) := by decide +kernel
theorem dX0_clear_30 : decode cX0_clear 30 = .ok (.aload_n 0, 1) := by decide +kernel
theorem dX0_clear_31 : decode cX0_clear 31 = .ok (.iconst 0, 1) := by decide +kernel
theorem dX0_clear_32 : decode cX0_clear 32 = .ok (.putfield 58, 3) := by decide +kernel
theorem dX0_clear_35 : decode cX0_clear 35 = .ok (.aload_n 0, 1) := by decide +kernel
theorem dX0_clear_36 : decode cX0_clear 36 = .ok (.getfield 24, 3) := by decide +kernel
theorem dX0_clear_39 : decode cX0_clear 39 = .ok (.iconst 0, 1) := by decide +kernel
theorem dX0_clear_40 : decode cX0_clear 40 = .ok (.putfield 61, 3) := by decide +kernel
theorem dX0_clear_43 : decode cX0_clear 43 = .ok (.aload_n 0, 1) := by decide +kernel
theorem dX0_clear_44 : decode cX0_clear 44 = .ok (.getfield 31, 3) := by decide +kernel
theorem dX0_clear_47 : decode cX0_clear 47 = .ok (.iconst 0, 1) := by decide +kernel
theorem dX0_clear_48 : decode cX0_clear 48 = .ok (.putfield 64, 3) := by decide +kernel
theorem dX0_clear_51 : decode cX0_clear 51 = .ok (.aload_n 0, 1) := by decide +kernel
theorem dX0_clear_52 : decode cX0_clear 52 = .ok (.getfield 38, 3) := by decide +kernel
theorem dX0_clear_55 : decode cX0_clear 55 = .ok (.invokevirtual 65, 3) := by decide +kernel
theorem dX0_clear_58 : decode cX0_clear 58 = .ok (.return_, 1) := by decide +kernel
theorem dX0_settle_0 : decode cX0_settle 0 = .ok (.aload_n 0, 1) := by decide +kernel
theorem dX0_settle_1 : decode cX0_settle 1 = .ok (.getfield 24, 3) := by decide +kernel
theorem dX0_settle_4 : decode cX0_settle 4 = .ok (.aload_n 0, 1) := by decide +kernel
theorem dX0_settle_5 : decode cX0_settle 5 = .ok (.getfield 18, 3) := by decide +kernel
theorem dX0_settle_8 : decode cX0_settle 8 = .ok (.invokevirtual 68, 3) := by decide +kernel
theorem dX0_settle_11 : decode cX0_settle 11 = .ok (.aload_n 0, 1) := by decide +kernel
theorem dX0_settle_12 : decode cX0_settle 12 = .ok (.getfield 46, 3) := by decide +kernel
theorem dX0_settle_15 : decode cX0_settle 15 = .ok (.iconst 0, 1) := by decide +kernel
theorem dX0_settle_16 : decode cX0_settle 16 = .ok (.invokestatic 72, 3) := by decide +kernel
theorem dX0_settle_19 : decode cX0_settle 19 = .ok (.return_, 1) := by decide +kernel
theorem dX0_copyFrom_0 : decode cX0_copyFrom 0 = .ok (.aload_n 0, 1) := by decide +kernel
theorem dX0_copyFrom_1 : decode cX0_copyFrom 1 = .ok (.aload_n 1, 1) := by decide +kernel
theorem dX0_copyFrom_2 : decode cX0_copyFrom 2 = .ok (.getfield 11, 3) := by decide +kernel
theorem dX0_copyFrom_5 : decode cX0_copyFrom 5 = .ok (.putfield 11, 3) := by decide +kernel
theorem dX0_copyFrom_8 : decode cX0_copyFrom 8 = .ok (.aload_n 0, 1) := by decide +kernel
theorem dX0_copyFrom_9 : decode cX0_copyFrom 9 = .ok (.aload_n 1, 1) := by decide +kernel
theorem dX0_copyFrom_10 : decode cX0_copyFrom 10 = .ok (.getfield 15, 3) := by decide +kernel
theorem dX0_copyFrom_13 : decode cX0_copyFrom 13 = .ok (.putfield 15, 3) := by decide +kernel
theorem dX0_copyFrom_16 : decode cX0_copyFrom 16 = .ok (.aload_n 0, 1) := by decide +kernel
theorem dX0_copyFrom_17 : decode cX0_copyFrom 17 = .ok (.aload_n 1, 1) := by decide +kernel
theorem dX0_copyFrom_18 : decode cX0_copyFrom 18 = .ok (.getfield 18, 3) := by decide +kernel
theorem dX0_copyFrom_21 : decode cX0_copyFrom 21 = .ok (.putfield 18, 3) := by decide +kernel
theorem dX0_copyFrom_24 : decode cX0_copyFrom 24 = .ok (.aload_n 0, 1) := by decide +kernel
theorem dX0_copyFrom_25 : decode cX0_copyFrom 25 = .ok (.getfield 24, 3) := by decide +kernel
theorem dX0_copyFrom_28 : decode cX0_copyFrom 28 = .ok (.aload_n 1, 1) := by decide +kernel
theorem dX0_copyFrom_29 : decode cX0_copyFrom 29 = .ok (.getfield 24, 3) := by decide +kernel
theorem dX0_copyFrom_32 : decode cX0_copyFrom 32 = .ok (.invokevirtual 78, 3) := by decide +kernel
theorem dX0_copyFrom_35 : decode cX0_copyFrom 35 = .ok (.aload_n 0, 1) := by decide +kernel
theorem dX0_copyFrom_36 : decode cX0_copyFrom 36 = .ok (.getfield 31, 3) := by decide +kernel
theorem dX0_copyFrom_39 : decode cX0_copyFrom 39 = .ok (.aload_n 1, 1) := by decide +kernel
theorem dX0_copyFrom_40 : decode cX0_copyFrom 40 = .ok (.getfield 31, 3) := by decide +kernel
theorem dX0_copyFrom_43 : decode cX0_copyFrom 43 = .ok (.invokevirtual 82, 3) := by decide +kernel
theorem dX0_copyFrom_46 : decode cX0_copyFrom 46 = .ok (.aload_n 0, 1) := by decide +kernel
theorem dX0_copyFrom_47 : decode cX0_copyFrom 47 = .ok (.getfield 38, 3) := by decide +kernel
theorem dX0_copyFrom_50 : decode cX0_copyFrom 50 = .ok (.aload_n 1, 1) := by decide +kernel
theorem dX0_copyFrom_51 : decode cX0_copyFrom 51 = .ok (.getfield 38, 3) := by decide +kernel
theorem dX0_copyFrom_54 : decode cX0_copyFrom 54 = .ok (.invokevirtual 85, 3) := by decide +kernel
theorem dX0_copyFrom_57 : decode cX0_copyFrom 57 = .ok (.return_, 1) := by decide +kernel
theorem dX0_marry_0 : decode cX0_marry 0 = .ok (.aload_n 0, 1) := by decide +kernel
theorem dX0_marry_1 : decode cX0_marry 1 = .ok (.getfield 24, 3) := by decide +kernel
theorem dX0_marry_4 : decode cX0_marry 4 = .ok (.getfield 88, 3) := by decide +kernel
theorem dX0_marry_7 : decode cX0_marry 7 = .ok (.iload_n 1, 1) := by decide +kernel
theorem dX0_marry_8 : decode cX0_marry 8 = .ok (.aload_n 0, 1) := by decide +kernel
theorem dX0_marry_9 : decode cX0_marry 9 = .ok (.getfield 24, 3) := by decide +kernel
theorem dX0_marry_12 : decode cX0_marry 12 = .ok (.getfield 88, 3) := by decide +kernel
theorem dX0_marry_15 : decode cX0_marry 15 = .ok (.iload_n 1, 1) := by decide +kernel
theorem dX0_marry_16 : decode cX0_marry 16 = .ok (.iaload, 1) := by decide +kernel
theorem dX0_marry_17 : decode cX0_marry 17 = .ok (.aload_n 0, 1) := by decide +kernel
theorem dX0_marry_18 : decode cX0_marry 18 = .ok (.getfield 24, 3) := by decide +kernel
theorem dX0_marry_21 : decode cX0_marry 21 = .ok (.getfield 88, 3) := by decide +kernel
theorem dX0_marry_24 : decode cX0_marry 24 = .ok (.iload_n 2, 1) := by decide +kernel
theorem dX0_marry_25 : decode cX0_marry 25 = .ok (.iaload, 1) := by decide +kernel
theorem dX0_marry_26 : decode cX0_marry 26 = .ok (.invokestatic 91, 3) := by decide +kernel
theorem dX0_marry_29 : decode cX0_marry 29 = .ok (.iastore, 1) := by decide +kernel
theorem dX0_marry_30 : decode cX0_marry 30 = .ok (.aload_n 0, 1) := by decide +kernel
theorem dX0_marry_31 : decode cX0_marry 31 = .ok (.getfield 24, 3) := by decide +kernel
theorem dX0_marry_34 : decode cX0_marry 34 = .ok (.getfield 97, 3) := by decide +kernel
theorem dX0_marry_37 : decode cX0_marry 37 = .ok (.iload_n 1, 1) := by decide +kernel
theorem dX0_marry_38 : decode cX0_marry 38 = .ok (.aload_n 0, 1) := by decide +kernel
theorem dX0_marry_39 : decode cX0_marry 39 = .ok (.getfield 24, 3) := by decide +kernel
theorem dX0_marry_42 : decode cX0_marry 42 = .ok (.getfield 88, 3) := by decide +kernel
theorem dX0_marry_45 : decode cX0_marry 45 = .ok (.iload_n 1, 1) := by decide +kernel
theorem dX0_marry_46 : decode cX0_marry 46 = .ok (.iaload, 1) := by decide +kernel
theorem dX0_marry_47 : decode cX0_marry 47 = .ok (.iconst 1, 1) := by decide +kernel
theorem dX0_marry_48 : decode cX0_marry 48 = .ok (.iadd, 1) := by decide +kernel
theorem dX0_marry_49 : decode cX0_marry 49 = .ok (.iastore, 1) := by decide +kernel
theorem dX0_marry_50 : decode cX0_marry 50 = .ok (.aload_n 0, 1) := by decide +kernel
theorem dX0_marry_51 : decode cX0_marry 51 = .ok (.getfield 24, 3) := by decide +kernel
theorem dX0_marry_54 : decode cX0_marry 54 = .ok (.getfield 100, 3) := by decide +kernel
theorem dX0_marry_57 : decode cX0_marry 57 = .ok (.iload_n 1, 1) := by decide +kernel
theorem dX0_marry_58 : decode cX0_marry 58 = .ok (.aload_n 0, 1) := by decide +kernel
theorem dX0_marry_59 : decode cX0_marry 59 = .ok (.getfield 24, 3) := by decide +kernel
theorem dX0_marry_62 : decode cX0_marry 62 = .ok (.getfield 100, 3) := by decide +kernel
theorem dX0_marry_65 : decode cX0_marry 65 = .ok (.iload_n 1, 1) := by decide +kernel
theorem dX0_marry_66 : decode cX0_marry 66 = .ok (.iaload, 1) := by decide +kernel
theorem dX0_marry_67 : decode cX0_marry 67 = .ok (.aload_n 0, 1) := by decide +kernel
theorem dX0_marry_68 : decode cX0_marry 68 = .ok (.getfield 24, 3) := by decide +kernel
theorem dX0_marry_71 : decode cX0_marry 71 = .ok (.getfield 100, 3) := by decide +kernel
theorem dX0_marry_74 : decode cX0_marry 74 = .ok (.iload_n 2, 1) := by decide +kernel
theorem dX0_marry_75 : decode cX0_marry 75 = .ok (.iaload, 1) := by decide +kernel
theorem dX0_marry_76 : decode cX0_marry 76 = .ok (.invokestatic 103, 3) := by decide +kernel
theorem dX0_marry_79 : decode cX0_marry 79 = .ok (.iastore, 1) := by decide +kernel
theorem dX0_marry_80 : decode cX0_marry 80 = .ok (.iconst 0, 1) := by decide +kernel
theorem dX0_marry_81 : decode cX0_marry 81 = .ok (.istore_n 3, 1) := by decide +kernel
theorem dX0_marry_82 : decode cX0_marry 82 = .ok (.iload_n 3, 1) := by decide +kernel
theorem dX0_marry_83 : decode cX0_marry 83 = .ok (.aload_n 0, 1) := by decide +kernel
theorem dX0_marry_84 : decode cX0_marry 84 = .ok (.getfield 31, 3) := by decide +kernel
theorem dX0_marry_87 : decode cX0_marry 87 = .ok (.getfield 64, 3) := by decide +kernel
theorem dX0_marry_90 : decode cX0_marry 90 = .ok (.if_icmp .ge 44, 3) := by decide +kernel
theorem dX0_marry_93 : decode cX0_marry 93 = .ok (.aload_n 0, 1) := by decide +kernel
theorem dX0_marry_94 : decode cX0_marry 94 = .ok (.getfield 31, 3) := by decide +kernel
theorem dX0_marry_97 : decode cX0_marry 97 = .ok (.getfield 106, 3) := by decide +kernel
theorem dX0_marry_100 : decode cX0_marry 100 = .ok (.iload_n 3, 1) := by decide +kernel
theorem dX0_marry_101 : decode cX0_marry 101 = .ok (.aload_n 0, 1) := by decide +kernel
theorem dX0_marry_102 : decode cX0_marry 102 = .ok (.getfield 31, 3) := by decide +kernel
theorem dX0_marry_105 : decode cX0_marry 105 = .ok (.getfield 106, 3) := by decide +kernel
theorem dX0_marry_108 : decode cX0_marry 108 = .ok (.iload_n 3, 1) := by decide +kernel
theorem dX0_marry_109 : decode cX0_marry 109 = .ok (.iaload, 1) := by decide +kernel
theorem dX0_marry_110 : decode cX0_marry 110 = .ok (.iload_n 2, 1) := by decide +kernel
theorem dX0_marry_111 : decode cX0_marry 111 = .ok (.if_icmp .ne 7, 3) := by decide +kernel
theorem dX0_marry_114 : decode cX0_marry 114 = .ok (.iload_n 1, 1) := by decide +kernel
theorem dX0_marry_115 : decode cX0_marry 115 = .ok (.goto 12, 3) := by decide +kernel
theorem dX0_marry_118 : decode cX0_marry 118 = .ok (.aload_n 0, 1) := by decide +kernel
theorem dX0_marry_119 : decode cX0_marry 119 = .ok (.getfield 31, 3) := by decide +kernel
theorem dX0_marry_122 : decode cX0_marry 122 = .ok (.getfield 106, 3) := by decide +kernel
theorem dX0_marry_125 : decode cX0_marry 125 = .ok (.iload_n 3, 1) := by decide +kernel
theorem dX0_marry_126 : decode cX0_marry 126 = .ok (.iaload, 1) := by decide +kernel
theorem dX0_marry_127 : decode cX0_marry 127 = .ok (.iastore, 1) := by decide +kernel
theorem dX0_marry_128 : decode cX0_marry 128 = .ok (.iinc 3 1, 3) := by decide +kernel
theorem dX0_marry_131 : decode cX0_marry 131 = .ok (.goto (-49), 3) := by decide +kernel
theorem dX0_marry_134 : decode cX0_marry 134 = .ok (.aload_n 0, 1) := by decide +kernel
theorem dX0_marry_135 : decode cX0_marry 135 = .ok (.invokevirtual 109, 3) := by decide +kernel
theorem dX0_marry_138 : decode cX0_marry 138 = .ok (.return_, 1) := by decide +kernel
theorem dX0_rentOf_0 : decode cX0_rentOf 0 = .ok (.aload_n 0, 1) := by decide +kernel
theorem dX0_rentOf_1 : decode cX0_rentOf 1 = .ok (.getfield 24, 3) := by decide +kernel
theorem dX0_rentOf_4 : decode cX0_rentOf 4 = .ok (.getfield 112, 3) := by decide +kernel
theorem dX0_rentOf_7 : decode cX0_rentOf 7 = .ok (.iload_n 1, 1) := by decide +kernel
theorem dX0_rentOf_8 : decode cX0_rentOf 8 = .ok (.iaload, 1) := by decide +kernel
theorem dX0_rentOf_9 : decode cX0_rentOf 9 = .ok (.iconst 2, 1) := by decide +kernel
theorem dX0_rentOf_10 : decode cX0_rentOf 10 = .ok (.if_icmp .ne 5, 3) := by decide +kernel
theorem dX0_rentOf_13 : decode cX0_rentOf 13 = .ok (.iconst 0, 1) := by decide +kernel
theorem dX0_rentOf_14 : decode cX0_rentOf 14 = .ok (.ireturn, 1) := by decide +kernel
theorem dX0_rentOf_15 : decode cX0_rentOf 15 = .ok (.aload_n 0, 1) := by decide +kernel
theorem dX0_rentOf_16 : decode cX0_rentOf 16 = .ok (.getfield 49, 3) := by decide +kernel
theorem dX0_rentOf_19 : decode cX0_rentOf 19 = .ok (.aload_n 0, 1) := by decide +kernel
theorem dX0_rentOf_20 : decode cX0_rentOf 20 = .ok (.getfield 52, 3) := by decide +kernel
theorem dX0_rentOf_23 : decode cX0_rentOf 23 = .ok (.aload_n 0, 1) := by decide +kernel
theorem dX0_rentOf_24 : decode cX0_rentOf 24 = .ok (.getfield 24, 3) := by decide +kernel
theorem dX0_rentOf_27 : decode cX0_rentOf 27 = .ok (.getfield 115, 3) := by decide +kernel
theorem dX0_rentOf_30 : decode cX0_rentOf 30 = .ok (.iload_n 1, 1) := by decide +kernel
theorem dX0_rentOf_31 : decode cX0_rentOf 31 = .ok (.iaload, 1) := by decide +kernel
theorem dX0_rentOf_32 : decode cX0_rentOf 32 = .ok (.imul, 1) := by decide +kernel
theorem dX0_rentOf_33 : decode cX0_rentOf 33 = .ok (.iadd, 1) := by decide +kernel
theorem dX0_rentOf_34 : decode cX0_rentOf 34 = .ok (.aload_n 0, 1) := by decide +kernel
theorem dX0_rentOf_35 : decode cX0_rentOf 35 = .ok (.getfield 55, 3) := by decide +kernel
theorem dX0_rentOf_38 : decode cX0_rentOf 38 = .ok (.aload_n 0, 1) := by decide +kernel
theorem dX0_rentOf_39 : decode cX0_rentOf 39 = .ok (.getfield 24, 3) := by decide +kernel
theorem dX0_rentOf_42 : decode cX0_rentOf 42 = .ok (.getfield 100, 3) := by decide +kernel
theorem dX0_rentOf_45 : decode cX0_rentOf 45 = .ok (.iload_n 1, 1) := by decide +kernel
theorem dX0_rentOf_46 : decode cX0_rentOf 46 = .ok (.iaload, 1) := by decide +kernel
theorem dX0_rentOf_47 : decode cX0_rentOf 47 = .ok (.imul, 1) := by decide +kernel
theorem dX0_rentOf_48 : decode cX0_rentOf 48 = .ok (.iadd, 1) := by decide +kernel
theorem dX0_rentOf_49 : decode cX0_rentOf 49 = .ok (.istore_n 2, 1) := by decide +kernel
theorem dX0_rentOf_50 : decode cX0_rentOf 50 = .ok (.aload_n 0, 1) := by decide +kernel
theorem dX0_rentOf_51 : decode cX0_rentOf 51 = .ok (.getfield 24, 3) := by decide +kernel
theorem dX0_rentOf_54 : decode cX0_rentOf 54 = .ok (.iload_n 1, 1) := by decide +kernel
theorem dX0_rentOf_55 : decode cX0_rentOf 55 = .ok (.invokevirtual 118, 3) := by decide +kernel
theorem dX0_rentOf_58 : decode cX0_rentOf 58 = .ok (.ifCond .eq 9, 3) := by decide +kernel
theorem dX0_rentOf_61 : decode cX0_rentOf 61 = .ok (.iconst 2, 1) := by decide +kernel
theorem dX0_rentOf_62 : decode cX0_rentOf 62 = .ok (.iload_n 2, 1) := by decide +kernel
theorem dX0_rentOf_63 : decode cX0_rentOf 63 = .ok (.imul, 1) := by decide +kernel
theorem dX0_rentOf_64 : decode cX0_rentOf 64 = .ok (.goto 4, 3) := by decide +kernel
theorem dX0_rentOf_67 : decode cX0_rentOf 67 = .ok (.iload_n 2, 1) := by decide +kernel
theorem dX0_rentOf_68 : decode cX0_rentOf 68 = .ok (.ireturn, 1) := by decide +kernel
theorem dX0_handsNear_0 : decode cX0_handsNear 0 = .ok (.iconst 0, 1) := by decide +kernel
theorem dX0_handsNear_1 : decode cX0_handsNear 1 = .ok (.istore_n 3, 1) := by decide +kernel
theorem dX0_handsNear_2 : decode cX0_handsNear 2 = .ok (.iconst 0, 1) := by decide +kernel
theorem dX0_handsNear_3 : decode cX0_handsNear 3 = .ok (.istore 4, 2) := by decide +kernel
theorem dX0_handsNear_5 : decode cX0_handsNear 5 = .ok (.iload 4, 2) := by decide +kernel
theorem dX0_handsNear_7 : decode cX0_handsNear 7 = .ok (.aload_n 0, 1) := by decide +kernel
theorem dX0_handsNear_8 : decode cX0_handsNear 8 = .ok (.getfield 31, 3) := by decide +kernel
theorem dX0_handsNear_11 : decode cX0_handsNear 11 = .ok (.getfield 64, 3) := by decide +kernel
theorem dX0_handsNear_14 : decode cX0_handsNear 14 = .ok (.if_icmp .ge 87, 3) := by decide +kernel
theorem dX0_handsNear_17 : decode cX0_handsNear 17 = .ok (.aload_n 0, 1) := by decide +kernel
theorem dX0_handsNear_18 : decode cX0_handsNear 18 = .ok (.getfield 31, 3) := by decide +kernel
theorem dX0_handsNear_21 : decode cX0_handsNear 21 = .ok (.getfield 106, 3) := by decide +kernel
theorem dX0_handsNear_24 : decode cX0_handsNear 24 = .ok (.iload 4, 2) := by decide +kernel
theorem dX0_handsNear_26 : decode cX0_handsNear 26 = .ok (.iaload, 1) := by decide +kernel
theorem dX0_handsNear_27 : decode cX0_handsNear 27 = .ok (.istore 5, 2) := by decide +kernel
theorem dX0_handsNear_29 : decode cX0_handsNear 29 = .ok (.iload 5, 2) := by decide +kernel
theorem dX0_handsNear_31 : decode cX0_handsNear 31 = .ok (.iload_n 1, 1) := by decide +kernel
theorem dX0_handsNear_32 : decode cX0_handsNear 32 = .ok (.if_icmp .eq 63, 3) := by decide +kernel
theorem dX0_handsNear_35 : decode cX0_handsNear 35 = .ok (.iload_n 2, 1) := by decide +kernel
theorem dX0_handsNear_36 : decode cX0_handsNear 36 = .ok (.iload 5, 2) := by decide +kernel
theorem dX0_handsNear_38 : decode cX0_handsNear 38 = .ok (.ishr, 1) := by decide +kernel
theorem dX0_handsNear_39 : decode cX0_handsNear 39 = .ok (.iconst 1, 1) := by decide +kernel
theorem dX0_handsNear_40 : decode cX0_handsNear 40 = .ok (.iand, 1) := by decide +kernel
theorem dX0_handsNear_41 : decode cX0_handsNear 41 = .ok (.ifCond .eq 54, 3) := by decide +kernel
theorem dX0_handsNear_44 : decode cX0_handsNear 44 = .ok (.aload_n 0, 1) := by decide +kernel
theorem dX0_handsNear_45 : decode cX0_handsNear 45 = .ok (.getfield 24, 3) := by decide +kernel
theorem dX0_handsNear_48 : decode cX0_handsNear 48 = .ok (.getfield 115, 3) := by decide +kernel
theorem dX0_handsNear_51 : decode cX0_handsNear 51 = .ok (.iload 5, 2) := by decide +kernel
theorem dX0_handsNear_53 : decode cX0_handsNear 53 = .ok (.iaload, 1) := by decide +kernel
theorem dX0_handsNear_54 : decode cX0_handsNear 54 = .ok (.aload_n 0, 1) := by decide +kernel
theorem dX0_handsNear_55 : decode cX0_handsNear 55 = .ok (.getfield 24, 3) := by decide +kernel
theorem dX0_handsNear_58 : decode cX0_handsNear 58 = .ok (.getfield 115, 3) := by decide +kernel
theorem dX0_handsNear_61 : decode cX0_handsNear 61 = .ok (.iload_n 1, 1) := by decide +kernel
theorem dX0_handsNear_62 : decode cX0_handsNear 62 = .ok (.iaload, 1) := by decide +kernel
theorem dX0_handsNear_63 : decode cX0_handsNear 63 = .ok (.isub, 1) := by decide +kernel
theorem dX0_handsNear_64 : decode cX0_handsNear 64 = .ok (.invokestatic 122, 3) := by decide +kernel
theorem dX0_handsNear_67 : decode cX0_handsNear 67 = .ok (.aload_n 0, 1) := by decide +kernel
theorem dX0_handsNear_68 : decode cX0_handsNear 68 = .ok (.getfield 18, 3) := by decide +kernel
theorem dX0_handsNear_71 : decode cX0_handsNear 71 = .ok (.if_icmp .gt 24, 3) := by decide +kernel
theorem dX0_handsNear_74 : decode cX0_handsNear 74 = .ok (.aload_n 0, 1) := by decide +kernel
theorem dX0_handsNear_75 : decode cX0_handsNear 75 = .ok (.getfield 24, 3) := by decide +kernel
theorem dX0_handsNear_78 : decode cX0_handsNear 78 = .ok (.iload 5, 2) := by decide +kernel
theorem dX0_handsNear_80 : decode cX0_handsNear 80 = .ok (.iload_n 1, 1) := by decide +kernel
theorem dX0_handsNear_81 : decode cX0_handsNear 81 = .ok (.invokevirtual 126, 3) := by decide +kernel
theorem dX0_handsNear_84 : decode cX0_handsNear 84 = .ok (.iconst 1, 1) := by decide +kernel
theorem dX0_handsNear_85 : decode cX0_handsNear 85 = .ok (.if_icmp .gt 10, 3) := by decide +kernel
theorem dX0_handsNear_88 : decode cX0_handsNear 88 = .ok (.iload_n 3, 1) := by decide +kernel
theorem dX0_handsNear_89 : decode cX0_handsNear 89 = .ok (.iconst 1, 1) := by decide +kernel
theorem dX0_handsNear_90 : decode cX0_handsNear 90 = .ok (.iload 4, 2) := by decide +kernel
theorem dX0_handsNear_92 : decode cX0_handsNear 92 = .ok (.ishl, 1) := by decide +kernel
theorem dX0_handsNear_93 : decode cX0_handsNear 93 = .ok (.ior, 1) := by decide +kernel
theorem dX0_handsNear_94 : decode cX0_handsNear 94 = .ok (.istore_n 3, 1) := by decide +kernel
theorem dX0_handsNear_95 : decode cX0_handsNear 95 = .ok (.iinc 4 1, 3) := by decide +kernel
theorem dX0_handsNear_98 : decode cX0_handsNear 98 = .ok (.goto (-93), 3) := by decide +kernel
theorem dX0_handsNear_101 : decode cX0_handsNear 101 = .ok (.iload_n 3, 1) := by decide +kernel
theorem dX0_handsNear_102 : decode cX0_handsNear 102 = .ok (.ireturn, 1) := by decide +kernel
theorem dX0_canBe_0 : decode cX0_canBe 0 = .ok (.aload_n 0, 1) := by decide +kernel
theorem dX0_canBe_1 : decode cX0_canBe 1 = .ok (.iload_n 1, 1) := by decide +kernel
theorem dX0_canBe_2 : decode cX0_canBe 2 = .ok (.invokevirtual 129, 3) := by decide +kernel
theorem dX0_canBe_5 : decode cX0_canBe 5 = .ok (.iconst 2, 1) := by decide +kernel
theorem dX0_canBe_6 : decode cX0_canBe 6 = .ok (.iand, 1) := by decide +kernel
theorem dX0_canBe_7 : decode cX0_canBe 7 = .ok (.ifCond .eq 7, 3) := by decide +kernel
theorem dX0_canBe_10 : decode cX0_canBe 10 = .ok (.iconst 1, 1) := by decide +kernel
theorem dX0_canBe_11 : decode cX0_canBe 11 = .ok (.goto 4, 3) := by decide +kernel
theorem dX0_canBe_14 : decode cX0_canBe 14 = .ok (.iconst 0, 1) := by decide +kernel
theorem dX0_canBe_15 : decode cX0_canBe 15 = .ok (.ireturn, 1) := by decide +kernel
theorem dX0_reachedBy_0 : decode cX0_reachedBy 0 = .ok (.aload_n 0, 1) := by decide +kernel
theorem dX0_reachedBy_1 : decode cX0_reachedBy 1 = .ok (.iload_n 1, 1) := by decide +kernel
theorem dX0_reachedBy_2 : decode cX0_reachedBy 2 = .ok (.invokevirtual 129, 3) := by decide +kernel
theorem dX0_reachedBy_5 : decode cX0_reachedBy 5 = .ok (.iconst 2, 1) := by decide +kernel
theorem dX0_reachedBy_6 : decode cX0_reachedBy 6 = .ok (.ishr, 1) := by decide +kernel
theorem dX0_reachedBy_7 : decode cX0_reachedBy 7 = .ok (.sipush 1023, 3) := by decide +kernel
theorem dX0_reachedBy_10 : decode cX0_reachedBy 10 = .ok (.iand, 1) := by decide +kernel
theorem dX0_reachedBy_11 : decode cX0_reachedBy 11 = .ok (.ireturn, 1) := by decide +kernel
theorem dX0_fedBy_0 : decode cX0_fedBy 0 = .ok (.aload_n 0, 1) := by decide +kernel
theorem dX0_fedBy_1 : decode cX0_fedBy 1 = .ok (.iload_n 1, 1) := by decide +kernel
theorem dX0_fedBy_2 : decode cX0_fedBy 2 = .ok (.invokevirtual 129, 3) := by decide +kernel
theorem dX0_fedBy_5 : decode cX0_fedBy 5 = .ok (.bipush 12, 2) := by decide +kernel
theorem dX0_fedBy_7 : decode cX0_fedBy 7 = .ok (.ishr, 1) := by decide +kernel
theorem dX0_fedBy_8 : decode cX0_fedBy 8 = .ok (.ireturn, 1) := by decide +kernel
theorem dX0_judge_0 : decode cX0_judge 0 = .ok (.iload_n 1, 1) := by decide +kernel
theorem dX0_judge_1 : decode cX0_judge 1 = .ok (.ifCond .lt 12, 3) := by decide +kernel
theorem dX0_judge_4 : decode cX0_judge 4 = .ok (.iload_n 1, 1) := by decide +kernel
theorem dX0_judge_5 : decode cX0_judge 5 = .ok (.aload_n 0, 1) := by decide +kernel
theorem dX0_judge_6 : decode cX0_judge 6 = .ok (.getfield 46, 3) := by decide +kernel
theorem dX0_judge_9 : decode cX0_judge 9 = .ok (.arraylength, 1) := by decide +kernel
theorem dX0_judge_10 : decode cX0_judge 10 = .ok (.if_icmp .lt 5, 3) := by decide +kernel
theorem dX0_judge_13 : decode cX0_judge 13 = .ok (.iconst 0, 1) := by decide +kernel
theorem dX0_judge_14 : decode cX0_judge 14 = .ok (.ireturn, 1) := by decide +kernel
theorem dX0_judge_15 : decode cX0_judge 15 = .ok (.aload_n 0, 1) := by decide +kernel
theorem dX0_judge_16 : decode cX0_judge 16 = .ok (.getfield 46, 3) := by decide +kernel
theorem dX0_judge_19 : decode cX0_judge 19 = .ok (.iload_n 1, 1) := by decide +kernel
theorem dX0_judge_20 : decode cX0_judge 20 = .ok (.iaload, 1) := by decide +kernel
theorem dX0_judge_21 : decode cX0_judge 21 = .ok (.ifCond .ne 63, 3) := by decide +kernel
theorem dX0_judge_24 : decode cX0_judge 24 = .ok (.aload_n 0, 1) := by decide +kernel
theorem dX0_judge_25 : decode cX0_judge 25 = .ok (.iload_n 1, 1) := by decide +kernel
theorem dX0_judge_26 : decode cX0_judge 26 = .ok (.invokevirtual 132, 3) := by decide +kernel
theorem dX0_judge_29 : decode cX0_judge 29 = .ok (.ifCond .eq 16, 3) := by decide +kernel
theorem dX0_judge_32 : decode cX0_judge 32 = .ok (.aload_n 0, 1) := by decide +kernel
theorem dX0_judge_33 : decode cX0_judge 33 = .ok (.iload_n 1, 1) := by decide +kernel
theorem dX0_judge_34 : decode cX0_judge 34 = .ok (.invokevirtual 135, 3) := by decide +kernel
theorem dX0_judge_37 : decode cX0_judge 37 = .ok (.iconst (-1), 1) := by decide +kernel
theorem dX0_judge_38 : decode cX0_judge 38 = .ok (.if_icmp .ne 7, 3) := by decide +kernel
theorem dX0_judge_41 : decode cX0_judge 41 = .ok (.iconst 1, 1) := by decide +kernel
theorem dX0_judge_42 : decode cX0_judge 42 = .ok (.goto 4, 3) := by decide +kernel
theorem dX0_judge_45 : decode cX0_judge 45 = .ok (.iconst 0, 1) := by decide +kernel
theorem dX0_judge_46 : decode cX0_judge 46 = .ok (.istore_n 2, 1) := by decide +kernel
theorem dX0_judge_47 : decode cX0_judge 47 = .ok (.aload_n 0, 1) := by decide +kernel
theorem dX0_judge_48 : decode cX0_judge 48 = .ok (.getfield 46, 3) := by decide +kernel
theorem dX0_judge_51 : decode cX0_judge 51 = .ok (.iload_n 1, 1) := by decide +kernel
theorem dX0_judge_52 : decode cX0_judge 52 = .ok (.iconst 1, 1) := by decide +kernel
theorem dX0_judge_53 : decode cX0_judge 53 = .ok (.iload_n 2, 1) := by decide +kernel
theorem dX0_judge_54 : decode cX0_judge 54 = .ok (.ifCond .eq 7, 3) := by decide +kernel
theorem dX0_judge_57 : decode cX0_judge 57 = .ok (.iconst 2, 1) := by decide +kernel
theorem dX0_judge_58 : decode cX0_judge 58 = .ok (.goto 4, 3) := by decide +kernel
theorem dX0_judge_61 : decode cX0_judge 61 = .ok (.iconst 0, 1) := by decide +kernel
theorem dX0_judge_62 : decode cX0_judge 62 = .ok (.ior, 1) := by decide +kernel
theorem dX0_judge_63 : decode cX0_judge 63 = .ok (.aload_n 0, 1) := by decide +kernel
theorem dX0_judge_64 : decode cX0_judge 64 = .ok (.iload_n 1, 1) := by decide +kernel
theorem dX0_judge_65 : decode cX0_judge 65 = .ok (.invokevirtual 138, 3) := by decide +kernel
theorem dX0_judge_68 : decode cX0_judge 68 = .ok (.iconst 2, 1) := by decide +kernel
theorem dX0_judge_69 : decode cX0_judge 69 = .ok (.ishl, 1) := by decide +kernel
theorem dX0_judge_70 : decode cX0_judge 70 = .ok (.ior, 1) := by decide +kernel
theorem dX0_judge_71 : decode cX0_judge 71 = .ok (.aload_n 0, 1) := by decide +kernel
theorem dX0_judge_72 : decode cX0_judge 72 = .ok (.getfield 31, 3) := by decide +kernel
theorem dX0_judge_75 : decode cX0_judge 75 = .ok (.iload_n 1, 1) := by decide +kernel
theorem dX0_judge_76 : decode cX0_judge 76 = .ok (.invokevirtual 141, 3) := by decide +kernel
theorem dX0_judge_79 : decode cX0_judge 79 = .ok (.bipush 12, 2) := by decide +kernel
theorem dX0_judge_81 : decode cX0_judge 81 = .ok (.ishl, 1) := by decide +kernel
theorem dX0_judge_82 : decode cX0_judge 82 = .ok (.ior, 1) := by decide +kernel
theorem dX0_judge_83 : decode cX0_judge 83 = .ok (.iastore, 1) := by decide +kernel
theorem dX0_judge_84 : decode cX0_judge 84 = .ok (.aload_n 0, 1) := by decide +kernel
theorem dX0_judge_85 : decode cX0_judge 85 = .ok (.getfield 46, 3) := by decide +kernel
theorem dX0_judge_88 : decode cX0_judge 88 = .ok (.iload_n 1, 1) := by decide +kernel
theorem dX0_judge_89 : decode cX0_judge 89 = .ok (.iaload, 1) := by decide +kernel
theorem dX0_judge_90 : decode cX0_judge 90 = .ok (.ireturn, 1) := by decide +kernel
theorem dX0_isSound_0 : decode cX0_isSound 0 = .ok (.iload_n 1, 1) := by decide +kernel
theorem dX0_isSound_1 : decode cX0_isSound 1 = .ok (.aload_n 0, 1) := by decide +kernel
theorem dX0_isSound_2 : decode cX0_isSound 2 = .ok (.getfield 24, 3) := by decide +kernel
theorem dX0_isSound_5 : decode cX0_isSound 5 = .ok (.getfield 144, 3) := by decide +kernel
theorem dX0_isSound_8 : decode cX0_isSound 8 = .ok (.iand, 1) := by decide +kernel
theorem dX0_isSound_9 : decode cX0_isSound 9 = .ok (.ifCond .eq 5, 3) := by decide +kernel
theorem dX0_isSound_12 : decode cX0_isSound 12 = .ok (.iconst 0, 1) := by decide +kernel
theorem dX0_isSound_13 : decode cX0_isSound 13 = .ok (.ireturn, 1) := by decide +kernel
theorem dX0_isSound_14 : decode cX0_isSound 14 = .ok (.iconst 0, 1) := by decide +kernel
theorem dX0_isSound_15 : decode cX0_isSound 15 = .ok (.istore_n 2, 1) := by decide +kernel
theorem dX0_isSound_16 : decode cX0_isSound 16 = .ok (.iload_n 2, 1) := by decide +kernel
theorem dX0_isSound_17 : decode cX0_isSound 17 = .ok (.aload_n 0, 1) := by decide +kernel
theorem dX0_isSound_18 : decode cX0_isSound 18 = .ok (.getfield 24, 3) := by decide +kernel
theorem dX0_isSound_21 : decode cX0_isSound 21 = .ok (.getfield 61, 3) := by decide +kernel
theorem dX0_isSound_24 : decode cX0_isSound 24 = .ok (.if_icmp .ge 33, 3) := by decide +kernel
theorem dX0_isSound_27 : decode cX0_isSound 27 = .ok (.iload_n 1, 1) := by decide +kernel
theorem dX0_isSound_28 : decode cX0_isSound 28 = .ok (.iload_n 2, 1) := by decide +kernel
theorem dX0_isSound_29 : decode cX0_isSound 29 = .ok (.ishr, 1) := by decide +kernel
theorem dX0_isSound_30 : decode cX0_isSound 30 = .ok (.iconst 1, 1) := by decide +kernel
theorem dX0_isSound_31 : decode cX0_isSound 31 = .ok (.iand, 1) := by decide +kernel
theorem dX0_isSound_32 : decode cX0_isSound 32 = .ok (.ifCond .eq 19, 3) := by decide +kernel
theorem dX0_isSound_35 : decode cX0_isSound 35 = .ok (.iload_n 1, 1) := by decide +kernel
theorem dX0_isSound_36 : decode cX0_isSound 36 = .ok (.aload_n 0, 1) := by decide +kernel
theorem dX0_isSound_37 : decode cX0_isSound 37 = .ok (.getfield 24, 3) := by decide +kernel
theorem dX0_isSound_40 : decode cX0_isSound 40 = .ok (.getfield 147, 3) := by decide +kernel
theorem dX0_isSound_43 : decode cX0_isSound 43 = .ok (.iload_n 2, 1) := by decide +kernel
theorem dX0_isSound_44 : decode cX0_isSound 44 = .ok (.iaload, 1) := by decide +kernel
theorem dX0_isSound_45 : decode cX0_isSound 45 = .ok (.iand, 1) := by decide +kernel
theorem dX0_isSound_46 : decode cX0_isSound 46 = .ok (.ifCond .eq 5, 3) := by decide +kernel
theorem dX0_isSound_49 : decode cX0_isSound 49 = .ok (.iconst 0, 1) := by decide +kernel
theorem dX0_isSound_50 : decode cX0_isSound 50 = .ok (.ireturn, 1) := by decide +kernel
theorem dX0_isSound_51 : decode cX0_isSound 51 = .ok (.iinc 2 1, 3) := by decide +kernel
theorem dX0_isSound_54 : decode cX0_isSound 54 = .ok (.goto (-38), 3) := by decide +kernel
theorem dX0_isSound_57 : decode cX0_isSound 57 = .ok (.iconst 1, 1) := by decide +kernel
theorem dX0_isSound_58 : decode cX0_isSound 58 = .ok (.ireturn, 1) := by decide +kernel
theorem dX0_climb_0 : decode cX0_climb 0 = .ok (.iconst 0, 1) := by decide +kernel
theorem dX0_climb_1 : decode cX0_climb 1 = .ok (.istore_n 2, 1) := by decide +kernel
theorem dX0_climb_2 : decode cX0_climb 2 = .ok (.iconst 0, 1) := by decide +kernel
theorem dX0_climb_3 : decode cX0_climb 3 = .ok (.istore_n 3, 1) := by decide +kernel
theorem dX0_climb_4 : decode cX0_climb 4 = .ok (.iload_n 3, 1) := by decide +kernel
theorem dX0_climb_5 : decode cX0_climb 5 = .ok (.aload_n 0, 1) := by decide +kernel
theorem dX0_climb_6 : decode cX0_climb 6 = .ok (.getfield 15, 3) := by decide +kernel
theorem dX0_climb_9 : decode cX0_climb 9 = .ok (.if_icmp .ge 76, 3) := by decide +kernel
theorem dX0_climb_12 : decode cX0_climb 12 = .ok (.iconst 0, 1) := by decide +kernel
theorem dX0_climb_13 : decode cX0_climb 13 = .ok (.istore 4, 2) := by decide +kernel
theorem dX0_climb_15 : decode cX0_climb 15 = .ok (.iload 4, 2) := by decide +kernel
theorem dX0_climb_17 : decode cX0_climb 17 = .ok (.aload_n 0, 1) := by decide +kernel
theorem dX0_climb_18 : decode cX0_climb 18 = .ok (.getfield 24, 3) := by decide +kernel
theorem dX0_climb_21 : decode cX0_climb 21 = .ok (.getfield 61, 3) := by decide +kernel
theorem dX0_climb_24 : decode cX0_climb 24 = .ok (.if_icmp .ge 55, 3) := by decide +kernel
theorem dX0_climb_27 : decode cX0_climb 27 = .ok (.aload_n 0, 1) := by decide +kernel
theorem dX0_climb_28 : decode cX0_climb 28 = .ok (.getfield 24, 3) := by decide +kernel
theorem dX0_climb_31 : decode cX0_climb 31 = .ok (.getfield 115, 3) := by decide +kernel
theorem dX0_climb_34 : decode cX0_climb 34 = .ok (.iload 4, 2) := by decide +kernel
theorem dX0_climb_36 : decode cX0_climb 36 = .ok (.iaload, 1) := by decide +kernel
theorem dX0_climb_37 : decode cX0_climb 37 = .ok (.iload_n 3, 1) := by decide +kernel
theorem dX0_climb_38 : decode cX0_climb 38 = .ok (.if_icmp .ne 35, 3) := by decide +kernel
theorem dX0_climb_41 : decode cX0_climb 41 = .ok (.iload_n 3, 1) := by decide +kernel
theorem dX0_climb_42 : decode cX0_climb 42 = .ok (.aload_n 0, 1) := by decide +kernel
theorem dX0_climb_43 : decode cX0_climb 43 = .ok (.getfield 18, 3) := by decide +kernel
theorem dX0_climb_46 : decode cX0_climb 46 = .ok (.if_icmp .lt 20, 3) := by decide +kernel
theorem dX0_climb_49 : decode cX0_climb 49 = .ok (.iload_n 1, 1) := by decide +kernel
theorem dX0_climb_50 : decode cX0_climb 50 = .ok (.iload_n 2, 1) := by decide +kernel
theorem dX0_climb_51 : decode cX0_climb 51 = .ok (.iand, 1) := by decide +kernel
theorem dX0_climb_52 : decode cX0_climb 52 = .ok (.aload_n 0, 1) := by decide +kernel
theorem dX0_climb_53 : decode cX0_climb 53 = .ok (.getfield 24, 3) := by decide +kernel
theorem dX0_climb_56 : decode cX0_climb 56 = .ok (.getfield 150, 3) := by decide +kernel
theorem dX0_climb_59 : decode cX0_climb 59 = .ok (.iload 4, 2) := by decide +kernel
theorem dX0_climb_61 : decode cX0_climb 61 = .ok (.iaload, 1) := by decide +kernel
theorem dX0_climb_62 : decode cX0_climb 62 = .ok (.iand, 1) := by decide +kernel
theorem dX0_climb_63 : decode cX0_climb 63 = .ok (.ifCond .eq 10, 3) := by decide +kernel
theorem dX0_climb_66 : decode cX0_climb 66 = .ok (.iload_n 2, 1) := by decide +kernel
theorem dX0_climb_67 : decode cX0_climb 67 = .ok (.iconst 1, 1) := by decide +kernel
theorem dX0_climb_68 : decode cX0_climb 68 = .ok (.iload 4, 2) := by decide +kernel
theorem dX0_climb_70 : decode cX0_climb 70 = .ok (.ishl, 1) := by decide +kernel
theorem dX0_climb_71 : decode cX0_climb 71 = .ok (.ior, 1) := by decide +kernel
theorem dX0_climb_72 : decode cX0_climb 72 = .ok (.istore_n 2, 1) := by decide +kernel
theorem dX0_climb_73 : decode cX0_climb 73 = .ok (.iinc 4 1, 3) := by decide +kernel
theorem dX0_climb_76 : decode cX0_climb 76 = .ok (.goto (-61), 3) := by decide +kernel
theorem dX0_climb_79 : decode cX0_climb 79 = .ok (.iinc 3 1, 3) := by decide +kernel
theorem dX0_climb_82 : decode cX0_climb 82 = .ok (.goto (-78), 3) := by decide +kernel
theorem dX0_climb_85 : decode cX0_climb 85 = .ok (.iload_n 2, 1) := by decide +kernel
theorem dX0_climb_86 : decode cX0_climb 86 = .ok (.ireturn, 1) := by decide +kernel
theorem dX0_leastBroken_0 : decode cX0_leastBroken 0 = .ok (.aload_n 0, 1) := by decide +kernel
theorem dX0_leastBroken_1 : decode cX0_leastBroken 1 = .ok (.getfield 38, 3) := by decide +kernel
theorem dX0_leastBroken_4 : decode cX0_leastBroken 4 = .ok (.getfield 153, 3) := by decide +kernel
theorem dX0_leastBroken_7 : decode cX0_leastBroken 7 = .ok (.istore_n 2, 1) := by decide +kernel
theorem dX0_leastBroken_8 : decode cX0_leastBroken 8 = .ok (.iconst 0, 1) := by decide +kernel
theorem dX0_leastBroken_9 : decode cX0_leastBroken 9 = .ok (.istore_n 3, 1) := by decide +kernel
theorem dX0_leastBroken_10 : decode cX0_leastBroken 10 = .ok (.iload_n 3, 1) := by decide +kernel
theorem dX0_leastBroken_11 : decode cX0_leastBroken 11 = .ok (.aload_n 0, 1) := by decide +kernel
theorem dX0_leastBroken_12 : decode cX0_leastBroken 12 = .ok (.getfield 24, 3) := by decide +kernel
theorem dX0_leastBroken_15 : decode cX0_leastBroken 15 = .ok (.getfield 61, 3) := by decide +kernel
theorem dX0_leastBroken_18 : decode cX0_leastBroken 18 = .ok (.if_icmp .ge 64, 3) := by decide +kernel
theorem dX0_leastBroken_21 : decode cX0_leastBroken 21 = .ok (.iload_n 2, 1) := by decide +kernel
theorem dX0_leastBroken_22 : decode cX0_leastBroken 22 = .ok (.ifCond .le 60, 3) := by decide +kernel
theorem dX0_leastBroken_25 : decode cX0_leastBroken 25 = .ok (.iload_n 1, 1) := by decide +kernel
theorem dX0_leastBroken_26 : decode cX0_leastBroken 26 = .ok (.iload_n 3, 1) := by decide +kernel
theorem dX0_leastBroken_27 : decode cX0_leastBroken 27 = .ok (.ishr, 1) := by decide +kernel
theorem dX0_leastBroken_28 : decode cX0_leastBroken 28 = .ok (.iconst 1, 1) := by decide +kernel
theorem dX0_leastBroken_29 : decode cX0_leastBroken 29 = .ok (.iand, 1) := by decide +kernel
theorem dX0_leastBroken_30 : decode cX0_leastBroken 30 = .ok (.ifCond .ne 6, 3) := by decide +kernel
theorem dX0_leastBroken_33 : decode cX0_leastBroken 33 = .ok (.goto 43, 3) := by decide +kernel
theorem dX0_leastBroken_36 : decode cX0_leastBroken 36 = .ok (.aload_n 0, 1) := by decide +kernel
theorem dX0_leastBroken_37 : decode cX0_leastBroken 37 = .ok (.iload_n 3, 1) := by decide +kernel
theorem dX0_leastBroken_38 : decode cX0_leastBroken 38 = .ok (.iload_n 1, 1) := by decide +kernel
theorem dX0_leastBroken_39 : decode cX0_leastBroken 39 = .ok (.invokevirtual 154, 3) := by decide +kernel
theorem dX0_leastBroken_42 : decode cX0_leastBroken 42 = .ok (.iconst 0, 1) := by decide +kernel
theorem dX0_leastBroken_43 : decode cX0_leastBroken 43 = .ok (.istore 4, 2) := by decide +kernel
theorem dX0_leastBroken_45 : decode cX0_leastBroken 45 = .ok (.iload 4, 2) := by decide +kernel
theorem dX0_leastBroken_47 : decode cX0_leastBroken 47 = .ok (.iload_n 2, 1) := by decide +kernel
theorem dX0_leastBroken_48 : decode cX0_leastBroken 48 = .ok (.if_icmp .ge 28, 3) := by decide +kernel
theorem dX0_leastBroken_51 : decode cX0_leastBroken 51 = .ok (.aload_n 0, 1) := by decide +kernel
theorem dX0_leastBroken_52 : decode cX0_leastBroken 52 = .ok (.getfield 38, 3) := by decide +kernel
theorem dX0_leastBroken_55 : decode cX0_leastBroken 55 = .ok (.iload 4, 2) := by decide +kernel
theorem dX0_leastBroken_57 : decode cX0_leastBroken 57 = .ok (.aload_n 0, 1) := by decide +kernel
theorem dX0_leastBroken_58 : decode cX0_leastBroken 58 = .ok (.getfield 42, 3) := by decide +kernel
theorem dX0_leastBroken_61 : decode cX0_leastBroken 61 = .ok (.invokevirtual 158, 3) := by decide +kernel
theorem dX0_leastBroken_64 : decode cX0_leastBroken 64 = .ok (.ifCond .ne 6, 3) := by decide +kernel
theorem dX0_leastBroken_67 : decode cX0_leastBroken 67 = .ok (.iload 4, 2) := by decide +kernel
theorem dX0_leastBroken_69 : decode cX0_leastBroken 69 = .ok (.istore_n 2, 1) := by decide +kernel
theorem dX0_leastBroken_70 : decode cX0_leastBroken 70 = .ok (.iinc 4 1, 3) := by decide +kernel
theorem dX0_leastBroken_73 : decode cX0_leastBroken 73 = .ok (.goto (-28), 3) := by decide +kernel
theorem dX0_leastBroken_76 : decode cX0_leastBroken 76 = .ok (.iinc 3 1, 3) := by decide +kernel
theorem dX0_leastBroken_79 : decode cX0_leastBroken 79 = .ok (.goto (-69), 3) := by decide +kernel
theorem dX0_leastBroken_82 : decode cX0_leastBroken 82 = .ok (.iload_n 2, 1) := by decide +kernel
theorem dX0_leastBroken_83 : decode cX0_leastBroken 83 = .ok (.aload_n 0, 1) := by decide +kernel
theorem dX0_leastBroken_84 : decode cX0_leastBroken 84 = .ok (.getfield 38, 3) := by decide +kernel
theorem dX0_leastBroken_87 : decode cX0_leastBroken 87 = .ok (.getfield 153, 3) := by decide +kernel
theorem dX0_leastBroken_90 : decode cX0_leastBroken 90 = .ok (.if_icmp .ge 7, 3) := by decide +kernel
theorem dX0_leastBroken_93 : decode cX0_leastBroken 93 = .ok (.iload_n 2, 1) := by decide +kernel
theorem dX0_leastBroken_94 : decode cX0_leastBroken 94 = .ok (.goto 4, 3) := by decide +kernel
theorem dX0_leastBroken_97 : decode cX0_leastBroken 97 = .ok (.iconst (-1), 1) := by decide +kernel
theorem dX0_leastBroken_98 : decode cX0_leastBroken 98 = .ok (.ireturn, 1) := by decide +kernel
theorem dX0_lookAt_0 : decode cX0_lookAt 0 = .ok (.aload_n 0, 1) := by decide +kernel
theorem dX0_lookAt_1 : decode cX0_lookAt 1 = .ok (.getfield 42, 3) := by decide +kernel
theorem dX0_lookAt_4 : decode cX0_lookAt 4 = .ok (.iconst 0, 1) := by decide +kernel
theorem dX0_lookAt_5 : decode cX0_lookAt 5 = .ok (.aload_n 0, 1) := by decide +kernel
theorem dX0_lookAt_6 : decode cX0_lookAt 6 = .ok (.getfield 24, 3) := by decide +kernel
theorem dX0_lookAt_9 : decode cX0_lookAt 9 = .ok (.getfield 88, 3) := by decide +kernel
theorem dX0_lookAt_12 : decode cX0_lookAt 12 = .ok (.iload_n 1, 1) := by decide +kernel
theorem dX0_lookAt_13 : decode cX0_lookAt 13 = .ok (.iaload, 1) := by decide +kernel
theorem dX0_lookAt_14 : decode cX0_lookAt 14 = .ok (.iastore, 1) := by decide +kernel
theorem dX0_lookAt_15 : decode cX0_lookAt 15 = .ok (.aload_n 0, 1) := by decide +kernel
theorem dX0_lookAt_16 : decode cX0_lookAt 16 = .ok (.getfield 42, 3) := by decide +kernel
theorem dX0_lookAt_19 : decode cX0_lookAt 19 = .ok (.iconst 1, 1) := by decide +kernel
theorem dX0_lookAt_20 : decode cX0_lookAt 20 = .ok (.aload_n 0, 1) := by decide +kernel
theorem dX0_lookAt_21 : decode cX0_lookAt 21 = .ok (.getfield 24, 3) := by decide +kernel
theorem dX0_lookAt_24 : decode cX0_lookAt 24 = .ok (.getfield 115, 3) := by decide +kernel
theorem dX0_lookAt_27 : decode cX0_lookAt 27 = .ok (.iload_n 1, 1) := by decide +kernel
theorem dX0_lookAt_28 : decode cX0_lookAt 28 = .ok (.iaload, 1) := by decide +kernel
theorem dX0_lookAt_29 : decode cX0_lookAt 29 = .ok (.iastore, 1) := by decide +kernel
theorem dX0_lookAt_30 : decode cX0_lookAt 30 = .ok (.aload_n 0, 1) := by decide +kernel
theorem dX0_lookAt_31 : decode cX0_lookAt 31 = .ok (.getfield 42, 3) := by decide +kernel
theorem dX0_lookAt_34 : decode cX0_lookAt 34 = .ok (.iconst 2, 1) := by decide +kernel
theorem dX0_lookAt_35 : decode cX0_lookAt 35 = .ok (.aload_n 0, 1) := by decide +kernel
theorem dX0_lookAt_36 : decode cX0_lookAt 36 = .ok (.getfield 24, 3) := by decide +kernel
theorem dX0_lookAt_39 : decode cX0_lookAt 39 = .ok (.getfield 100, 3) := by decide +kernel
theorem dX0_lookAt_42 : decode cX0_lookAt 42 = .ok (.iload_n 1, 1) := by decide +kernel
theorem dX0_lookAt_43 : decode cX0_lookAt 43 = .ok (.iaload, 1) := by decide +kernel
theorem dX0_lookAt_44 : decode cX0_lookAt 44 = .ok (.iastore, 1) := by decide +kernel
theorem dX0_lookAt_45 : decode cX0_lookAt 45 = .ok (.aload_n 0, 1) := by decide +kernel
theorem dX0_lookAt_46 : decode cX0_lookAt 46 = .ok (.getfield 42, 3) := by decide +kernel
theorem dX0_lookAt_49 : decode cX0_lookAt 49 = .ok (.iconst 3, 1) := by decide +kernel
theorem dX0_lookAt_50 : decode cX0_lookAt 50 = .ok (.aload_n 0, 1) := by decide +kernel
theorem dX0_lookAt_51 : decode cX0_lookAt 51 = .ok (.getfield 24, 3) := by decide +kernel
theorem dX0_lookAt_54 : decode cX0_lookAt 54 = .ok (.getfield 112, 3) := by decide +kernel
theorem dX0_lookAt_57 : decode cX0_lookAt 57 = .ok (.iload_n 1, 1) := by decide +kernel
theorem dX0_lookAt_58 : decode cX0_lookAt 58 = .ok (.iaload, 1) := by decide +kernel
theorem dX0_lookAt_59 : decode cX0_lookAt 59 = .ok (.iastore, 1) := by decide +kernel
theorem dX0_lookAt_60 : decode cX0_lookAt 60 = .ok (.aload_n 0, 1) := by decide +kernel
theorem dX0_lookAt_61 : decode cX0_lookAt 61 = .ok (.getfield 42, 3) := by decide +kernel
theorem dX0_lookAt_64 : decode cX0_lookAt 64 = .ok (.iconst 4, 1) := by decide +kernel
theorem dX0_lookAt_65 : decode cX0_lookAt 65 = .ok (.iload_n 2, 1) := by decide +kernel
theorem dX0_lookAt_66 : decode cX0_lookAt 66 = .ok (.invokestatic 162, 3) := by decide +kernel
theorem dX0_lookAt_69 : decode cX0_lookAt 69 = .ok (.iastore, 1) := by decide +kernel
theorem dX0_lookAt_70 : decode cX0_lookAt 70 = .ok (.aload_n 0, 1) := by decide +kernel
theorem dX0_lookAt_71 : decode cX0_lookAt 71 = .ok (.getfield 42, 3) := by decide +kernel
theorem dX0_lookAt_74 : decode cX0_lookAt 74 = .ok (.iconst 5, 1) := by decide +kernel
theorem dX0_lookAt_75 : decode cX0_lookAt 75 = .ok (.iload_n 2, 1) := by decide +kernel
theorem dX0_lookAt_76 : decode cX0_lookAt 76 = .ok (.aload_n 0, 1) := by decide +kernel
theorem dX0_lookAt_77 : decode cX0_lookAt 77 = .ok (.getfield 24, 3) := by decide +kernel
theorem dX0_lookAt_80 : decode cX0_lookAt 80 = .ok (.getfield 167, 3) := by decide +kernel
theorem dX0_lookAt_83 : decode cX0_lookAt 83 = .ok (.iand, 1) := by decide +kernel
theorem dX0_lookAt_84 : decode cX0_lookAt 84 = .ok (.invokestatic 162, 3) := by decide +kernel
theorem dX0_lookAt_87 : decode cX0_lookAt 87 = .ok (.iastore, 1) := by decide +kernel
theorem dX0_lookAt_88 : decode cX0_lookAt 88 = .ok (.aload_n 0, 1) := by decide +kernel
theorem dX0_lookAt_89 : decode cX0_lookAt 89 = .ok (.getfield 42, 3) := by decide +kernel
theorem dX0_lookAt_92 : decode cX0_lookAt 92 = .ok (.bipush 6, 2) := by decide +kernel
theorem dX0_lookAt_94 : decode cX0_lookAt 94 = .ok (.iload_n 2, 1) := by decide +kernel
theorem dX0_lookAt_95 : decode cX0_lookAt 95 = .ok (.aload_n 0, 1) := by decide +kernel
theorem dX0_lookAt_96 : decode cX0_lookAt 96 = .ok (.getfield 24, 3) := by decide +kernel
theorem dX0_lookAt_99 : decode cX0_lookAt 99 = .ok (.getfield 170, 3) := by decide +kernel
theorem dX0_lookAt_102 : decode cX0_lookAt 102 = .ok (.iload_n 1, 1) := by decide +kernel
theorem dX0_lookAt_103 : decode cX0_lookAt 103 = .ok (.iaload, 1) := by decide +kernel
theorem dX0_lookAt_104 : decode cX0_lookAt 104 = .ok (.iand, 1) := by decide +kernel
theorem dX0_lookAt_105 : decode cX0_lookAt 105 = .ok (.invokestatic 162, 3) := by decide +kernel
theorem dX0_lookAt_108 : decode cX0_lookAt 108 = .ok (.iastore, 1) := by decide +kernel
theorem dX0_lookAt_109 : decode cX0_lookAt 109 = .ok (.return_, 1) := by decide +kernel
theorem dX1_init_0 : decode cX1_init 0 = .ok (.aload_n 0, 1) := by decide +kernel
theorem dX1_init_1 : decode cX1_init 1 = .ok (.invokespecial 3, 3) := by decide +kernel
theorem dX1_init_4 : decode cX1_init 4 = .ok (.aload_n 0, 1) := by decide +kernel
theorem dX1_init_5 : decode cX1_init 5 = .ok (.aload_n 1, 1) := by decide +kernel
theorem dX1_init_6 : decode cX1_init 6 = .ok (.putfield 9, 3) := by decide +kernel
theorem dX1_init_9 : decode cX1_init 9 = .ok (.aload_n 0, 1) := by decide +kernel
theorem dX1_init_10 : decode cX1_init 10 = .ok (.aload_n 2, 1) := by decide +kernel
theorem dX1_init_11 : decode cX1_init 11 = .ok (.putfield 15, 3) := by decide +kernel
theorem dX1_init_14 : decode cX1_init 14 = .ok (.aload_n 0, 1) := by decide +kernel
theorem dX1_init_15 : decode cX1_init 15 = .ok (.new 19, 3) := by decide +kernel
theorem dX1_init_18 : decode cX1_init 18 = .ok (.dup, 1) := by decide +kernel
theorem dX1_init_19 : decode cX1_init 19 = .ok (.aload_n 1, 1) := by decide +kernel
theorem dX1_init_20 : decode cX1_init 20 = .ok (.aload_n 2, 1) := by decide +kernel
theorem dX1_init_21 : decode cX1_init 21 = .ok (.getfield 21, 3) := by decide +kernel
theorem dX1_init_24 : decode cX1_init 24 = .ok (.invokespecial 27, 3) := by decide +kernel
theorem dX1_init_27 : decode cX1_init 27 = .ok (.putfield 30, 3) := by decide +kernel
theorem dX1_init_30 : decode cX1_init 30 = .ok (.return_, 1) := by decide +kernel
theorem dX1_readCity_0 : decode cX1_readCity 0 = .ok (.aload_n 0, 1) := by decide +kernel
theorem dX1_readCity_1 : decode cX1_readCity 1 = .ok (.getfield 15, 3) := by decide +kernel
theorem dX1_readCity_4 : decode cX1_readCity 4 = .ok (.invokevirtual 34, 3) := by decide +kernel
theorem dX1_readCity_7 : decode cX1_readCity 7 = .ok (.aload_n 0, 1) := by decide +kernel
theorem dX1_readCity_8 : decode cX1_readCity 8 = .ok (.getfield 9, 3) := by decide +kernel
theorem dX1_readCity_11 : decode cX1_readCity 11 = .ok (.invokevirtual 37, 3) := by decide +kernel
theorem dX1_readCity_14 : decode cX1_readCity 14 = .ok (.iconst 0, 1) := by decide +kernel
theorem dX1_readCity_15 : decode cX1_readCity 15 = .ok (.istore_n 1, 1) := by decide +kernel
theorem dX1_readCity_16 : decode cX1_readCity 16 = .ok (.iload_n 1, 1) := by decide +kernel
theorem dX1_readCity_17 : decode cX1_readCity 17 = .ok (.sipush 700, 3) := by decide +kernel
theorem dX1_readCity_20 : decode cX1_readCity 20 = .ok (.if_icmp .ge 46, 3) := by decide +kernel
theorem dX1_readCity_23 : decode cX1_readCity 23 = .ok (.aload_n 0, 1) := by decide +kernel
theorem dX1_readCity_24 : decode cX1_readCity 24 = .ok (.getfield 9, 3) := by decide +kernel
theorem dX1_readCity_27 : decode cX1_readCity 27 = .ok (.invokevirtual 42, 3) := by decide +kernel
theorem dX1_readCity_30 : decode cX1_readCity 30 = .ok (.ifCond .ne 36, 3) := by decide +kernel
theorem dX1_readCity_33 : decode cX1_readCity 33 = .ok (.aload_n 0, 1) := by decide +kernel
theorem dX1_readCity_34 : decode cX1_readCity 34 = .ok (.iload_n 1, 1) := by decide +kernel
theorem dX1_readCity_35 : decode cX1_readCity 35 = .ok (.ifCond .ne 7, 3) := by decide +kernel
theorem dX1_readCity_38 : decode cX1_readCity 38 = .ok (.iconst 1, 1) := by decide +kernel
theorem dX1_readCity_39 : decode cX1_readCity 39 = .ok (.goto 4, 3) := by decide +kernel
theorem dX1_readCity_42 : decode cX1_readCity 42 = .ok (.iconst 0, 1) := by decide +kernel
theorem dX1_readCity_43 : decode cX1_readCity 43 = .ok (.invokevirtual 46, 3) := by decide +kernel
theorem dX1_readCity_46 : decode cX1_readCity 46 = .ok (.ifCond .eq 12, 3) := by decide +kernel
theorem dX1_readCity_49 : decode cX1_readCity 49 = .ok (.aload_n 0, 1) := by decide +kernel
theorem dX1_readCity_50 : decode cX1_readCity 50 = .ok (.bipush 59, 2) := by decide +kernel
theorem dX1_readCity_52 : decode cX1_readCity 52 = .ok (.invokevirtual 50, 3) := by decide +kernel
theorem dX1_readCity_55 : decode cX1_readCity 55 = .ok (.ifCond .ne 5, 3) := by decide +kernel
theorem dX1_readCity_58 : decode cX1_readCity 58 = .ok (.iconst 0, 1) := by decide +kernel
theorem dX1_readCity_59 : decode cX1_readCity 59 = .ok (.ireturn, 1) := by decide +kernel
theorem dX1_readCity_60 : decode cX1_readCity 60 = .ok (.iinc 1 1, 3) := by decide +kernel
theorem dX1_readCity_63 : decode cX1_readCity 63 = .ok (.goto (-47), 3) := by decide +kernel
theorem dX1_readCity_66 : decode cX1_readCity 66 = .ok (.aload_n 0, 1) := by decide +kernel
theorem dX1_readCity_67 : decode cX1_readCity 67 = .ok (.getfield 15, 3) := by decide +kernel
theorem dX1_readCity_70 : decode cX1_readCity 70 = .ok (.invokevirtual 54, 3) := by decide +kernel
theorem dX1_readCity_73 : decode cX1_readCity 73 = .ok (.iconst 1, 1) := by decide +kernel
theorem dX1_readCity_74 : decode cX1_readCity 74 = .ok (.ireturn, 1) := by decide +kernel
theorem dX1_readLine_0 : decode cX1_readLine 0 = .ok (.aload_n 0, 1) := by decide +kernel
theorem dX1_readLine_1 : decode cX1_readLine 1 = .ok (.invokevirtual 57, 3) := by decide +kernel
theorem dX1_readLine_4 : decode cX1_readLine 4 = .ok (.istore_n 2, 1) := by decide +kernel
theorem dX1_readLine_5 : decode cX1_readLine 5 = .ok (.iload_n 2, 1) := by decide +kernel
theorem dX1_readLine_6 : decode cX1_readLine 6 = .ok (.iconst (-1), 1) := by decide +kernel
theorem dX1_readLine_7 : decode cX1_readLine 7 = .ok (.if_icmp .eq 9, 3) := by decide +kernel
theorem dX1_readLine_10 : decode cX1_readLine 10 = .ok (.aload_n 0, 1) := by decide +kernel
theorem dX1_readLine_11 : decode cX1_readLine 11 = .ok (.iload_n 2, 1) := by decide +kernel
theorem dX1_readLine_12 : decode cX1_readLine 12 = .ok (.invokevirtual 61, 3) := by decide +kernel
theorem dX1_readLine_15 : decode cX1_readLine 15 = .ok (.ireturn, 1) := by decide +kernel
theorem dX1_readLine_16 : decode cX1_readLine 16 = .ok (.aload_n 0, 1) := by decide +kernel
theorem dX1_readLine_17 : decode cX1_readLine 17 = .ok (.getfield 9, 3) := by decide +kernel
theorem dX1_readLine_20 : decode cX1_readLine 20 = .ok (.ldc 65, 2) := by decide +kernel
theorem dX1_readLine_22 : decode cX1_readLine 22 = .ok (.invokevirtual 67, 3) := by decide +kernel
theorem dX1_readLine_25 : decode cX1_readLine 25 = .ok (.ifCond .eq 8, 3) := by decide +kernel
theorem dX1_readLine_28 : decode cX1_readLine 28 = .ok (.aload_n 0, 1) := by decide +kernel
theorem dX1_readLine_29 : decode cX1_readLine 29 = .ok (.invokevirtual 71, 3) := by decide +kernel
theorem dX1_readLine_32 : decode cX1_readLine 32 = .ok (.ireturn, 1) := by decide +kernel
theorem dX1_readLine_33 : decode cX1_readLine 33 = .ok (.aload_n 0, 1) := by decide +kernel
theorem dX1_readLine_34 : decode cX1_readLine 34 = .ok (.getfield 9, 3) := by decide +kernel
theorem dX1_readLine_37 : decode cX1_readLine 37 = .ok (.ldc 74, 2) := by decide +kernel
theorem dX1_readLine_39 : decode cX1_readLine 39 = .ok (.invokevirtual 67, 3) := by decide +kernel
theorem dX1_readLine_42 : decode cX1_readLine 42 = .ok (.ifCond .eq 8, 3) := by decide +kernel
theorem dX1_readLine_45 : decode cX1_readLine 45 = .ok (.aload_n 0, 1) := by decide +kernel
theorem dX1_readLine_46 : decode cX1_readLine 46 = .ok (.invokevirtual 76, 3) := by decide +kernel
theorem dX1_readLine_49 : decode cX1_readLine 49 = .ok (.ireturn, 1) := by decide +kernel
theorem dX1_readLine_50 : decode cX1_readLine 50 = .ok (.aload_n 0, 1) := by decide +kernel
theorem dX1_readLine_51 : decode cX1_readLine 51 = .ok (.getfield 9, 3) := by decide +kernel
theorem dX1_readLine_54 : decode cX1_readLine 54 = .ok (.ldc 79, 2) := by decide +kernel
theorem dX1_readLine_56 : decode cX1_readLine 56 = .ok (.invokevirtual 67, 3) := by decide +kernel
theorem dX1_readLine_59 : decode cX1_readLine 59 = .ok (.ifCond .eq 23, 3) := by decide +kernel
theorem dX1_readLine_62 : decode cX1_readLine 62 = .ok (.iload_n 1, 1) := by decide +kernel
theorem dX1_readLine_63 : decode cX1_readLine 63 = .ok (.ifCond .eq 10, 3) := by decide +kernel
theorem dX1_readLine_66 : decode cX1_readLine 66 = .ok (.aload_n 0, 1) := by decide +kernel
theorem dX1_readLine_67 : decode cX1_readLine 67 = .ok (.invokevirtual 81, 3) := by decide +kernel
theorem dX1_readLine_70 : decode cX1_readLine 70 = .ok (.goto 11, 3) := by decide +kernel
theorem dX1_readLine_73 : decode cX1_readLine 73 = .ok (.aload_n 0, 1) := by decide +kernel
theorem dX1_readLine_74 : decode cX1_readLine 74 = .ok (.getfield 9, 3) := by decide +kernel
theorem dX1_readLine_77 : decode cX1_readLine 77 = .ok (.iconst 4, 1) := by decide +kernel
theorem dX1_readLine_78 : decode cX1_readLine 78 = .ok (.invokevirtual 84, 3) := by decide +kernel
theorem dX1_readLine_81 : decode cX1_readLine 81 = .ok (.ireturn, 1) := by decide +kernel
theorem dX1_readLine_82 : decode cX1_readLine 82 = .ok (.aload_n 0, 1) := by decide +kernel
theorem dX1_readLine_83 : decode cX1_readLine 83 = .ok (.getfield 9, 3) := by decide +kernel
theorem dX1_readLine_86 : decode cX1_readLine 86 = .ok (.ldc 87, 2) := by decide +kernel
theorem dX1_readLine_88 : decode cX1_readLine 88 = .ok (.invokevirtual 67, 3) := by decide +kernel
theorem dX1_readLine_91 : decode cX1_readLine 91 = .ok (.ifCond .eq 26, 3) := by decide +kernel
theorem dX1_readLine_94 : decode cX1_readLine 94 = .ok (.aload_n 0, 1) := by decide +kernel
theorem dX1_readLine_95 : decode cX1_readLine 95 = .ok (.getfield 89, 3) := by decide +kernel
theorem dX1_readLine_98 : decode cX1_readLine 98 = .ok (.ifCond .eq 14, 3) := by decide +kernel
theorem dX1_readLine_101 : decode cX1_readLine 101 = .ok (.aload_n 0, 1) := by decide +kernel
theorem dX1_readLine_102 : decode cX1_readLine 102 = .ok (.getfield 9, 3) := by decide +kernel
theorem dX1_readLine_105 : decode cX1_readLine 105 = .ok (.iconst 4, 1) := by decide +kernel
theorem dX1_readLine_106 : decode cX1_readLine 106 = .ok (.invokevirtual 84, 3) := by decide +kernel
theorem dX1_readLine_109 : decode cX1_readLine 109 = .ok (.goto 7, 3) := by decide +kernel
theorem dX1_readLine_112 : decode cX1_readLine 112 = .ok (.aload_n 0, 1) := by decide +kernel
theorem dX1_readLine_113 : decode cX1_readLine 113 = .ok (.invokevirtual 93, 3) := by decide +kernel
theorem dX1_readLine_116 : decode cX1_readLine 116 = .ok (.ireturn, 1) := by decide +kernel
theorem dX1_readLine_117 : decode cX1_readLine 117 = .ok (.aload_n 0, 1) := by decide +kernel
theorem dX1_readLine_118 : decode cX1_readLine 118 = .ok (.getfield 9, 3) := by decide +kernel
theorem dX1_readLine_121 : decode cX1_readLine 121 = .ok (.ldc 96, 2) := by decide +kernel
theorem dX1_readLine_123 : decode cX1_readLine 123 = .ok (.invokevirtual 67, 3) := by decide +kernel
theorem dX1_readLine_126 : decode cX1_readLine 126 = .ok (.ifCond .eq 26, 3) := by decide +kernel
theorem dX1_readLine_129 : decode cX1_readLine 129 = .ok (.aload_n 0, 1) := by decide +kernel
theorem dX1_readLine_130 : decode cX1_readLine 130 = .ok (.getfield 98, 3) := by decide +kernel
theorem dX1_readLine_133 : decode cX1_readLine 133 = .ok (.ifCond .eq 14, 3) := by decide +kernel
theorem dX1_readLine_136 : decode cX1_readLine 136 = .ok (.aload_n 0, 1) := by decide +kernel
theorem dX1_readLine_137 : decode cX1_readLine 137 = .ok (.getfield 9, 3) := by decide +kernel
theorem dX1_readLine_140 : decode cX1_readLine 140 = .ok (.iconst 4, 1) := by decide +kernel
theorem dX1_readLine_141 : decode cX1_readLine 141 = .ok (.invokevirtual 84, 3) := by decide +kernel
theorem dX1_readLine_144 : decode cX1_readLine 144 = .ok (.goto 7, 3) := by decide +kernel
theorem dX1_readLine_147 : decode cX1_readLine 147 = .ok (.aload_n 0, 1) := by decide +kernel
theorem dX1_readLine_148 : decode cX1_readLine 148 = .ok (.invokevirtual 101, 3) := by decide +kernel
theorem dX1_readLine_151 : decode cX1_readLine 151 = .ok (.ireturn, 1) := by decide +kernel
theorem dX1_readLine_152 : decode cX1_readLine 152 = .ok (.aload_n 0, 1) := by decide +kernel
theorem dX1_readLine_153 : decode cX1_readLine 153 = .ok (.getfield 9, 3) := by decide +kernel
theorem dX1_readLine_156 : decode cX1_readLine 156 = .ok (.ldc 104, 2) := by decide +kernel
theorem dX1_readLine_158 : decode cX1_readLine 158 = .ok (.invokevirtual 67, 3) := by decide +kernel
theorem dX1_readLine_161 : decode cX1_readLine 161 = .ok (.ifCond .eq 26, 3) := by decide +kernel
theorem dX1_readLine_164 : decode cX1_readLine 164 = .ok (.aload_n 0, 1) := by decide +kernel
theorem dX1_readLine_165 : decode cX1_readLine 165 = .ok (.getfield 106, 3) := by decide +kernel
theorem dX1_readLine_168 : decode cX1_readLine 168 = .ok (.ifCond .eq 14, 3) := by decide +kernel
theorem dX1_readLine_171 : decode cX1_readLine 171 = .ok (.aload_n 0, 1) := by decide +kernel
theorem dX1_readLine_172 : decode cX1_readLine 172 = .ok (.getfield 9, 3) := by decide +kernel
theorem dX1_readLine_175 : decode cX1_readLine 175 = .ok (.iconst 4, 1) := by decide +kernel
theorem dX1_readLine_176 : decode cX1_readLine 176 = .ok (.invokevirtual 84, 3) := by decide +kernel
theorem dX1_readLine_179 : decode cX1_readLine 179 = .ok (.goto 7, 3) := by decide +kernel
theorem dX1_readLine_182 : decode cX1_readLine 182 = .ok (.aload_n 0, 1) := by decide +kernel
theorem dX1_readLine_183 : decode cX1_readLine 183 = .ok (.invokevirtual 109, 3) := by decide +kernel
theorem dX1_readLine_186 : decode cX1_readLine 186 = .ok (.ireturn, 1) := by decide +kernel
theorem dX1_readLine_187 : decode cX1_readLine 187 = .ok (.aload_n 0, 1) := by decide +kernel
theorem dX1_readLine_188 : decode cX1_readLine 188 = .ok (.getfield 9, 3) := by decide +kernel
theorem dX1_readLine_191 : decode cX1_readLine 191 = .ok (.iconst 1, 1) := by decide +kernel
theorem dX1_readLine_192 : decode cX1_readLine 192 = .ok (.invokevirtual 84, 3) := by decide +kernel
theorem dX1_readLine_195 : decode cX1_readLine 195 = .ok (.ireturn, 1) := by decide +kernel
theorem dX1_kindTold_0 : decode cX1_kindTold 0 = .ok (.aload_n 0, 1) := by decide +kernel
theorem dX1_kindTold_1 : decode cX1_kindTold 1 = .ok (.getfield 9, 3) := by decide +kernel
theorem dX1_kindTold_4 : decode cX1_kindTold 4 = .ok (.ldc 112, 2) := by decide +kernel
theorem dX1_kindTold_6 : decode cX1_kindTold 6 = .ok (.invokevirtual 67, 3) := by decide +kernel
theorem dX1_kindTold_9 : decode cX1_kindTold 9 = .ok (.ifCond .eq 5, 3) := by decide +kernel
theorem dX1_kindTold_12 : decode cX1_kindTold 12 = .ok (.iconst 0, 1) := by decide +kernel
theorem dX1_kindTold_13 : decode cX1_kindTold 13 = .ok (.ireturn, 1) := by decide +kernel
theorem dX1_kindTold_14 : decode cX1_kindTold 14 = .ok (.aload_n 0, 1) := by decide +kernel
theorem dX1_kindTold_15 : decode cX1_kindTold 15 = .ok (.getfield 9, 3) := by decide +kernel
theorem dX1_kindTold_18 : decode cX1_kindTold 18 = .ok (.ldc 114, 2) := by decide +kernel
theorem dX1_kindTold_20 : decode cX1_kindTold 20 = .ok (.invokevirtual 67, 3) := by decide +kernel
theorem dX1_kindTold_23 : decode cX1_kindTold 23 = .ok (.ifCond .eq 5, 3) := by decide +kernel
theorem dX1_kindTold_26 : decode cX1_kindTold 26 = .ok (.iconst 1, 1) := by decide +kernel
theorem dX1_kindTold_27 : decode cX1_kindTold 27 = .ok (.ireturn, 1) := by decide +kernel
theorem dX1_kindTold_28 : decode cX1_kindTold 28 = .ok (.aload_n 0, 1) := by decide +kernel
theorem dX1_kindTold_29 : decode cX1_kindTold 29 = .ok (.getfield 9, 3) := by decide +kernel
theorem dX1_kindTold_32 : decode cX1_kindTold 32 = .ok (.ldc 116, 2) := by decide +kernel
theorem dX1_kindTold_34 : decode cX1_kindTold 34 = .ok (.invokevirtual 67, 3) := by decide +kernel
theorem dX1_kindTold_37 : decode cX1_kindTold 37 = .ok (.ifCond .eq 5, 3) := by decide +kernel
theorem dX1_kindTold_40 : decode cX1_kindTold 40 = .ok (.iconst 2, 1) := by decide +kernel
theorem dX1_kindTold_41 : decode cX1_kindTold 41 = .ok (.ireturn, 1) := by decide +kernel
theorem dX1_kindTold_42 : decode cX1_kindTold 42 = .ok (.aload_n 0, 1) := by decide +kernel
theorem dX1_kindTold_43 : decode cX1_kindTold 43 = .ok (.getfield 9, 3) := by decide +kernel
theorem dX1_kindTold_46 : decode cX1_kindTold 46 = .ok (.ldc 118, 2) := by decide +kernel
theorem dX1_kindTold_48 : decode cX1_kindTold 48 = .ok (.invokevirtual 67, 3) := by decide +kernel
theorem dX1_kindTold_51 : decode cX1_kindTold 51 = .ok (.ifCond .eq 7, 3) := by decide +kernel
theorem dX1_kindTold_54 : decode cX1_kindTold 54 = .ok (.iconst 3, 1) := by decide +kernel
theorem dX1_kindTold_55 : decode cX1_kindTold 55 = .ok (.goto 4, 3) := by decide +kernel
theorem dX1_kindTold_58 : decode cX1_kindTold 58 = .ok (.iconst (-1), 1) := by decide +kernel
theorem dX1_kindTold_59 : decode cX1_kindTold 59 = .ok (.ireturn, 1) := by decide +kernel
theorem dX1_readSign_0 : decode cX1_readSign 0 = .ok (.aload_n 0, 1) := by decide +kernel
theorem dX1_readSign_1 : decode cX1_readSign 1 = .ok (.getfield 9, 3) := by decide +kernel
theorem dX1_readSign_4 : decode cX1_readSign 4 = .ok (.iload_n 1, 1) := by decide +kernel
theorem dX1_readSign_5 : decode cX1_readSign 5 = .ok (.invokevirtual 120, 3) := by decide +kernel
theorem dX1_readSign_8 : decode cX1_readSign 8 = .ok (.ifCond .ne 12, 3) := by decide +kernel
theorem dX1_readSign_11 : decode cX1_readSign 11 = .ok (.aload_n 0, 1) := by decide +kernel
theorem dX1_readSign_12 : decode cX1_readSign 12 = .ok (.getfield 9, 3) := by decide +kernel
theorem dX1_readSign_15 : decode cX1_readSign 15 = .ok (.iconst 1, 1) := by decide +kernel
theorem dX1_readSign_16 : decode cX1_readSign 16 = .ok (.invokevirtual 84, 3) := by decide +kernel
theorem dX1_readSign_19 : decode cX1_readSign 19 = .ok (.ireturn, 1) := by decide +kernel
theorem dX1_readSign_20 : decode cX1_readSign 20 = .ok (.aload_n 0, 1) := by decide +kernel
theorem dX1_readSign_21 : decode cX1_readSign 21 = .ok (.getfield 9, 3) := by decide +kernel
theorem dX1_readSign_24 : decode cX1_readSign 24 = .ok (.invokevirtual 37, 3) := by decide +kernel
theorem dX1_readSign_27 : decode cX1_readSign 27 = .ok (.iconst 1, 1) := by decide +kernel
theorem dX1_readSign_28 : decode cX1_readSign 28 = .ok (.ireturn, 1) := by decide +kernel
theorem dX1_seeNumber_0 : decode cX1_seeNumber 0 = .ok (.aload_n 0, 1) := by decide +kernel
theorem dX1_seeNumber_1 : decode cX1_seeNumber 1 = .ok (.getfield 9, 3) := by decide +kernel
theorem dX1_seeNumber_4 : decode cX1_seeNumber 4 = .ok (.invokevirtual 123, 3) := by decide +kernel
theorem dX1_seeNumber_7 : decode cX1_seeNumber 7 = .ok (.ifCond .ne 12, 3) := by decide +kernel
theorem dX1_seeNumber_10 : decode cX1_seeNumber 10 = .ok (.aload_n 0, 1) := by decide +kernel
theorem dX1_seeNumber_11 : decode cX1_seeNumber 11 = .ok (.getfield 9, 3) := by decide +kernel
theorem dX1_seeNumber_14 : decode cX1_seeNumber 14 = .ok (.iconst 1, 1) := by decide +kernel
theorem dX1_seeNumber_15 : decode cX1_seeNumber 15 = .ok (.invokevirtual 84, 3) := by decide +kernel
theorem dX1_seeNumber_18 : decode cX1_seeNumber 18 = .ok (.ireturn, 1) := by decide +kernel
theorem dX1_seeNumber_19 : decode cX1_seeNumber 19 = .ok (.aload_n 0, 1) := by decide +kernel
theorem dX1_seeNumber_20 : decode cX1_seeNumber 20 = .ok (.getfield 9, 3) := by decide +kernel
theorem dX1_seeNumber_23 : decode cX1_seeNumber 23 = .ok (.invokevirtual 126, 3) := by decide +kernel
theorem dX1_seeNumber_26 : decode cX1_seeNumber 26 = .ok (.ifCond .eq 12, 3) := by decide +kernel
theorem dX1_seeNumber_29 : decode cX1_seeNumber 29 = .ok (.aload_n 0, 1) := by decide +kernel
theorem dX1_seeNumber_30 : decode cX1_seeNumber 30 = .ok (.getfield 9, 3) := by decide +kernel
theorem dX1_seeNumber_33 : decode cX1_seeNumber 33 = .ok (.iconst 2, 1) := by decide +kernel
theorem dX1_seeNumber_34 : decode cX1_seeNumber 34 = .ok (.invokevirtual 84, 3) := by decide +kernel
theorem dX1_seeNumber_37 : decode cX1_seeNumber 37 = .ok (.ireturn, 1) := by decide +kernel
theorem dX1_seeNumber_38 : decode cX1_seeNumber 38 = .ok (.aload_n 0, 1) := by decide +kernel
theorem dX1_seeNumber_39 : decode cX1_seeNumber 39 = .ok (.aload_n 0, 1) := by decide +kernel
theorem dX1_seeNumber_40 : decode cX1_seeNumber 40 = .ok (.getfield 9, 3) := by decide +kernel
theorem dX1_seeNumber_43 : decode cX1_seeNumber 43 = .ok (.invokevirtual 129, 3) := by decide +kernel
theorem dX1_seeNumber_46 : decode cX1_seeNumber 46 = .ok (.putfield 132, 3) := by decide +kernel
theorem dX1_seeNumber_49 : decode cX1_seeNumber 49 = .ok (.aload_n 0, 1) := by decide +kernel
theorem dX1_seeNumber_50 : decode cX1_seeNumber 50 = .ok (.getfield 132, 3) := by decide +kernel
theorem dX1_seeNumber_53 : decode cX1_seeNumber 53 = .ok (.iload_n 1, 1) := by decide +kernel
theorem dX1_seeNumber_54 : decode cX1_seeNumber 54 = .ok (.if_icmp .lt 11, 3) := by decide +kernel
theorem dX1_seeNumber_57 : decode cX1_seeNumber 57 = .ok (.aload_n 0, 1) := by decide +kernel
theorem dX1_seeNumber_58 : decode cX1_seeNumber 58 = .ok (.getfield 132, 3) := by decide +kernel
theorem dX1_seeNumber_61 : decode cX1_seeNumber 61 = .ok (.iload_n 2, 1) := by decide +kernel
theorem dX1_seeNumber_62 : decode cX1_seeNumber 62 = .ok (.if_icmp .le 14, 3) := by decide +kernel
theorem dX1_seeNumber_65 : decode cX1_seeNumber 65 = .ok (.aload_n 0, 1) := by decide +kernel
theorem dX1_seeNumber_66 : decode cX1_seeNumber 66 = .ok (.getfield 9, 3) := by decide +kernel
theorem dX1_seeNumber_69 : decode cX1_seeNumber 69 = .ok (.iconst 2, 1) := by decide +kernel
theorem dX1_seeNumber_70 : decode cX1_seeNumber 70 = .ok (.invokevirtual 84, 3) := by decide +kernel
theorem dX1_seeNumber_73 : decode cX1_seeNumber 73 = .ok (.ifCond .eq 7, 3) := by decide +kernel
theorem dX1_seeNumber_76 : decode cX1_seeNumber 76 = .ok (.iconst 1, 1) := by decide +kernel
theorem dX1_seeNumber_77 : decode cX1_seeNumber 77 = .ok (.goto 4, 3) := by decide +kernel
theorem dX1_seeNumber_80 : decode cX1_seeNumber 80 = .ok (.iconst 0, 1) := by decide +kernel
theorem dX1_seeNumber_81 : decode cX1_seeNumber 81 = .ok (.ireturn, 1) := by decide +kernel
theorem dX1_readNumber_0 : decode cX1_readNumber 0 = .ok (.aload_n 0, 1) := by decide +kernel
theorem dX1_readNumber_1 : decode cX1_readNumber 1 = .ok (.iload_n 1, 1) := by decide +kernel
theorem dX1_readNumber_2 : decode cX1_readNumber 2 = .ok (.iload_n 2, 1) := by decide +kernel
theorem dX1_readNumber_3 : decode cX1_readNumber 3 = .ok (.invokevirtual 135, 3) := by decide +kernel
theorem dX1_readNumber_6 : decode cX1_readNumber 6 = .ok (.ifCond .ne 5, 3) := by decide +kernel
theorem dX1_readNumber_9 : decode cX1_readNumber 9 = .ok (.iconst 0, 1) := by decide +kernel
theorem dX1_readNumber_10 : decode cX1_readNumber 10 = .ok (.ireturn, 1) := by decide +kernel
theorem dX1_readNumber_11 : decode cX1_readNumber 11 = .ok (.aload_n 0, 1) := by decide +kernel
theorem dX1_readNumber_12 : decode cX1_readNumber 12 = .ok (.getfield 9, 3) := by decide +kernel
theorem dX1_readNumber_15 : decode cX1_readNumber 15 = .ok (.invokevirtual 37, 3) := by decide +kernel
theorem dX1_readNumber_18 : decode cX1_readNumber 18 = .ok (.iconst 1, 1) := by decide +kernel
theorem dX1_readNumber_19 : decode cX1_readNumber 19 = .ok (.ireturn, 1) := by decide +kernel
theorem dX1_readWall_0 : decode cX1_readWall 0 = .ok (.aload_n 0, 1) := by decide +kernel
theorem dX1_readWall_1 : decode cX1_readWall 1 = .ok (.getfield 9, 3) := by decide +kernel
theorem dX1_readWall_4 : decode cX1_readWall 4 = .ok (.invokevirtual 37, 3) := by decide +kernel
theorem dX1_readWall_7 : decode cX1_readWall 7 = .ok (.aload_n 0, 1) := by decide +kernel
theorem dX1_readWall_8 : decode cX1_readWall 8 = .ok (.iconst 1, 1) := by decide +kernel
theorem dX1_readWall_9 : decode cX1_readWall 9 = .ok (.bipush 6, 2) := by decide +kernel
theorem dX1_readWall_11 : decode cX1_readWall 11 = .ok (.invokevirtual 139, 3) := by decide +kernel
theorem dX1_readWall_14 : decode cX1_readWall 14 = .ok (.ifCond .ne 5, 3) := by decide +kernel
theorem dX1_readWall_17 : decode cX1_readWall 17 = .ok (.iconst 0, 1) := by decide +kernel
theorem dX1_readWall_18 : decode cX1_readWall 18 = .ok (.ireturn, 1) := by decide +kernel
theorem dX1_readWall_19 : decode cX1_readWall 19 = .ok (.aload_n 0, 1) := by decide +kernel
theorem dX1_readWall_20 : decode cX1_readWall 20 = .ok (.getfield 15, 3) := by decide +kernel
theorem dX1_readWall_23 : decode cX1_readWall 23 = .ok (.aload_n 0, 1) := by decide +kernel
theorem dX1_readWall_24 : decode cX1_readWall 24 = .ok (.getfield 132, 3) := by decide +kernel
theorem dX1_readWall_27 : decode cX1_readWall 27 = .ok (.putfield 142, 3) := by decide +kernel
theorem dX1_readWall_30 : decode cX1_readWall 30 = .ok (.aload_n 0, 1) := by decide +kernel
theorem dX1_readWall_31 : decode cX1_readWall 31 = .ok (.iconst 1, 1) := by decide +kernel
theorem dX1_readWall_32 : decode cX1_readWall 32 = .ok (.bipush 9, 2) := by decide +kernel
theorem dX1_readWall_34 : decode cX1_readWall 34 = .ok (.invokevirtual 139, 3) := by decide +kernel
theorem dX1_readWall_37 : decode cX1_readWall 37 = .ok (.ifCond .ne 5, 3) := by decide +kernel
theorem dX1_readWall_40 : decode cX1_readWall 40 = .ok (.iconst 0, 1) := by decide +kernel
theorem dX1_readWall_41 : decode cX1_readWall 41 = .ok (.ireturn, 1) := by decide +kernel
theorem dX1_readWall_42 : decode cX1_readWall 42 = .ok (.aload_n 0, 1) := by decide +kernel
theorem dX1_readWall_43 : decode cX1_readWall 43 = .ok (.getfield 15, 3) := by decide +kernel
theorem dX1_readWall_46 : decode cX1_readWall 46 = .ok (.aload_n 0, 1) := by decide +kernel
theorem dX1_readWall_47 : decode cX1_readWall 47 = .ok (.getfield 132, 3) := by decide +kernel
theorem dX1_readWall_50 : decode cX1_readWall 50 = .ok (.putfield 145, 3) := by decide +kernel
theorem dX1_readWall_53 : decode cX1_readWall 53 = .ok (.iconst 1, 1) := by decide +kernel
theorem dX1_readWall_54 : decode cX1_readWall 54 = .ok (.ireturn, 1) := by decide +kernel
theorem dX1_readReach_0 : decode cX1_readReach 0 = .ok (.aload_n 0, 1) := by decide +kernel
theorem dX1_readReach_1 : decode cX1_readReach 1 = .ok (.getfield 9, 3) := by decide +kernel
theorem dX1_readReach_4 : decode cX1_readReach 4 = .ok (.invokevirtual 37, 3) := by decide +kernel
theorem dX1_readReach_7 : decode cX1_readReach 7 = .ok (.aload_n 0, 1) := by decide +kernel
theorem dX1_readReach_8 : decode cX1_readReach 8 = .ok (.iconst 1, 1) := by decide +kernel
theorem dX1_readReach_9 : decode cX1_readReach 9 = .ok (.bipush 9, 2) := by decide +kernel
theorem dX1_readReach_11 : decode cX1_readReach 11 = .ok (.invokevirtual 139, 3) := by decide +kernel
theorem dX1_readReach_14 : decode cX1_readReach 14 = .ok (.ifCond .ne 5, 3) := by decide +kernel
theorem dX1_readReach_17 : decode cX1_readReach 17 = .ok (.iconst 0, 1) := by decide +kernel
theorem dX1_readReach_18 : decode cX1_readReach 18 = .ok (.ireturn, 1) := by decide +kernel
theorem dX1_readReach_19 : decode cX1_readReach 19 = .ok (.aload_n 0, 1) := by decide +kernel
theorem dX1_readReach_20 : decode cX1_readReach 20 = .ok (.getfield 15, 3) := by decide +kernel
theorem dX1_readReach_23 : decode cX1_readReach 23 = .ok (.aload_n 0, 1) := by decide +kernel
theorem dX1_readReach_24 : decode cX1_readReach 24 = .ok (.getfield 132, 3) := by decide +kernel
theorem dX1_readReach_27 : decode cX1_readReach 27 = .ok (.putfield 148, 3) := by decide +kernel
theorem dX1_readReach_30 : decode cX1_readReach 30 = .ok (.aload_n 0, 1) := by decide +kernel
theorem dX1_readReach_31 : decode cX1_readReach 31 = .ok (.iconst 1, 1) := by decide +kernel
theorem dX1_readReach_32 : decode cX1_readReach 32 = .ok (.putfield 89, 3) := by decide +kernel
theorem dX1_readReach_35 : decode cX1_readReach 35 = .ok (.iconst 1, 1) := by decide +kernel
theorem dX1_readReach_36 : decode cX1_readReach 36 = .ok (.ireturn, 1) := by decide +kernel
theorem dX1_readRent_0 : decode cX1_readRent 0 = .ok (.aload_n 0, 1) := by decide +kernel
theorem dX1_readRent_1 : decode cX1_readRent 1 = .ok (.getfield 9, 3) := by decide +kernel
theorem dX1_readRent_4 : decode cX1_readRent 4 = .ok (.invokevirtual 37, 3) := by decide +kernel
theorem dX1_readRent_7 : decode cX1_readRent 7 = .ok (.aload_n 0, 1) := by decide +kernel
theorem dX1_readRent_8 : decode cX1_readRent 8 = .ok (.iconst 0, 1) := by decide +kernel
theorem dX1_readRent_9 : decode cX1_readRent 9 = .ok (.bipush 99, 2) := by decide +kernel
theorem dX1_readRent_11 : decode cX1_readRent 11 = .ok (.invokevirtual 139, 3) := by decide +kernel
theorem dX1_readRent_14 : decode cX1_readRent 14 = .ok (.ifCond .ne 5, 3) := by decide +kernel
theorem dX1_readRent_17 : decode cX1_readRent 17 = .ok (.iconst 0, 1) := by decide +kernel
theorem dX1_readRent_18 : decode cX1_readRent 18 = .ok (.ireturn, 1) := by decide +kernel
theorem dX1_readRent_19 : decode cX1_readRent 19 = .ok (.aload_n 0, 1) := by decide +kernel
theorem dX1_readRent_20 : decode cX1_readRent 20 = .ok (.getfield 15, 3) := by decide +kernel
theorem dX1_readRent_23 : decode cX1_readRent 23 = .ok (.aload_n 0, 1) := by decide +kernel
theorem dX1_readRent_24 : decode cX1_readRent 24 = .ok (.getfield 132, 3) := by decide +kernel
theorem dX1_readRent_27 : decode cX1_readRent 27 = .ok (.putfield 150, 3) := by decide +kernel
theorem dX1_readRent_30 : decode cX1_readRent 30 = .ok (.aload_n 0, 1) := by decide +kernel
theorem dX1_readRent_31 : decode cX1_readRent 31 = .ok (.iconst 0, 1) := by decide +kernel
theorem dX1_readRent_32 : decode cX1_readRent 32 = .ok (.bipush 99, 2) := by decide +kernel
theorem dX1_readRent_34 : decode cX1_readRent 34 = .ok (.invokevirtual 139, 3) := by decide +kernel
theorem dX1_readRent_37 : decode cX1_readRent 37 = .ok (.ifCond .ne 5, 3) := by decide +kernel
theorem dX1_readRent_40 : decode cX1_readRent 40 = .ok (.iconst 0, 1) := by decide +kernel
theorem dX1_readRent_41 : decode cX1_readRent 41 = .ok (.ireturn, 1) := by decide +kernel
theorem dX1_readRent_42 : decode cX1_readRent 42 = .ok (.aload_n 0, 1) := by decide +kernel
theorem dX1_readRent_43 : decode cX1_readRent 43 = .ok (.getfield 15, 3) := by decide +kernel
theorem dX1_readRent_46 : decode cX1_readRent 46 = .ok (.aload_n 0, 1) := by decide +kernel
theorem dX1_readRent_47 : decode cX1_readRent 47 = .ok (.getfield 132, 3) := by decide +kernel
theorem dX1_readRent_50 : decode cX1_readRent 50 = .ok (.putfield 153, 3) := by decide +kernel
theorem dX1_readRent_53 : decode cX1_readRent 53 = .ok (.aload_n 0, 1) := by decide +kernel
theorem dX1_readRent_54 : decode cX1_readRent 54 = .ok (.iconst 0, 1) := by decide +kernel
theorem dX1_readRent_55 : decode cX1_readRent 55 = .ok (.bipush 99, 2) := by decide +kernel
theorem dX1_readRent_57 : decode cX1_readRent 57 = .ok (.invokevirtual 139, 3) := by decide +kernel
theorem dX1_readRent_60 : decode cX1_readRent 60 = .ok (.ifCond .ne 5, 3) := by decide +kernel
theorem dX1_readRent_63 : decode cX1_readRent 63 = .ok (.iconst 0, 1) := by decide +kernel
theorem dX1_readRent_64 : decode cX1_readRent 64 = .ok (.ireturn, 1) := by decide +kernel
theorem dX1_readRent_65 : decode cX1_readRent 65 = .ok (.aload_n 0, 1) := by decide +kernel
theorem dX1_readRent_66 : decode cX1_readRent 66 = .ok (.getfield 15, 3) := by decide +kernel
theorem dX1_readRent_69 : decode cX1_readRent 69 = .ok (.aload_n 0, 1) := by decide +kernel
theorem dX1_readRent_70 : decode cX1_readRent 70 = .ok (.getfield 132, 3) := by decide +kernel
theorem dX1_readRent_73 : decode cX1_readRent 73 = .ok (.putfield 156, 3) := by decide +kernel
theorem dX1_readRent_76 : decode cX1_readRent 76 = .ok (.aload_n 0, 1) := by decide +kernel
theorem dX1_readRent_77 : decode cX1_readRent 77 = .ok (.iconst 1, 1) := by decide +kernel
theorem dX1_readRent_78 : decode cX1_readRent 78 = .ok (.putfield 98, 3) := by decide +kernel
theorem dX1_readRent_81 : decode cX1_readRent 81 = .ok (.iconst 1, 1) := by decide +kernel
theorem dX1_readRent_82 : decode cX1_readRent 82 = .ok (.ireturn, 1) := by decide +kernel
theorem dX1_readWind_0 : decode cX1_readWind 0 = .ok (.aload_n 0, 1) := by decide +kernel
theorem dX1_readWind_1 : decode cX1_readWind 1 = .ok (.getfield 9, 3) := by decide +kernel
theorem dX1_readWind_4 : decode cX1_readWind 4 = .ok (.invokevirtual 37, 3) := by decide +kernel
theorem dX1_readWind_7 : decode cX1_readWind 7 = .ok (.aload_n 0, 1) := by decide +kernel
theorem dX1_readWind_8 : decode cX1_readWind 8 = .ok (.iconst 0, 1) := by decide +kernel
theorem dX1_readWind_9 : decode cX1_readWind 9 = .ok (.sipush 1000, 3) := by decide +kernel
theorem dX1_readWind_12 : decode cX1_readWind 12 = .ok (.invokevirtual 139, 3) := by decide +kernel
theorem dX1_readWind_15 : decode cX1_readWind 15 = .ok (.ifCond .ne 5, 3) := by decide +kernel
theorem dX1_readWind_18 : decode cX1_readWind 18 = .ok (.iconst 0, 1) := by decide +kernel
theorem dX1_readWind_19 : decode cX1_readWind 19 = .ok (.ireturn, 1) := by decide +kernel
theorem dX1_readWind_20 : decode cX1_readWind 20 = .ok (.aload_n 0, 1) := by decide +kernel
theorem dX1_readWind_21 : decode cX1_readWind 21 = .ok (.getfield 15, 3) := by decide +kernel
theorem dX1_readWind_24 : decode cX1_readWind 24 = .ok (.aload_n 0, 1) := by decide +kernel
theorem dX1_readWind_25 : decode cX1_readWind 25 = .ok (.getfield 132, 3) := by decide +kernel
theorem dX1_readWind_28 : decode cX1_readWind 28 = .ok (.putfield 159, 3) := by decide +kernel
theorem dX1_readWind_31 : decode cX1_readWind 31 = .ok (.aload_n 0, 1) := by decide +kernel
theorem dX1_readWind_32 : decode cX1_readWind 32 = .ok (.iconst 1, 1) := by decide +kernel
theorem dX1_readWind_33 : decode cX1_readWind 33 = .ok (.putfield 106, 3) := by decide +kernel
theorem dX1_readWind_36 : decode cX1_readWind 36 = .ok (.iconst 1, 1) := by decide +kernel
theorem dX1_readWind_37 : decode cX1_readWind 37 = .ok (.ireturn, 1) := by decide +kernel
theorem dX1_readDrawer_0 : decode cX1_readDrawer 0 = .ok (.aload_n 0, 1) := by decide +kernel
theorem dX1_readDrawer_1 : decode cX1_readDrawer 1 = .ok (.getfield 15, 3) := by decide +kernel
theorem dX1_readDrawer_4 : decode cX1_readDrawer 4 = .ok (.getfield 162, 3) := by decide +kernel
theorem dX1_readDrawer_7 : decode cX1_readDrawer 7 = .ok (.astore_n 2, 1) := by decide +kernel
theorem dX1_readDrawer_8 : decode cX1_readDrawer 8 = .ok (.aload_n 2, 1) := by decide +kernel
theorem dX1_readDrawer_9 : decode cX1_readDrawer 9 = .ok (.getfield 166, 3) := by decide +kernel
theorem dX1_readDrawer_12 : decode cX1_readDrawer 12 = .ok (.istore_n 3, 1) := by decide +kernel
theorem dX1_readDrawer_13 : decode cX1_readDrawer 13 = .ok (.iload_n 3, 1) := by decide +kernel
theorem dX1_readDrawer_14 : decode cX1_readDrawer 14 = .ok (.bipush 10, 2) := by decide +kernel
theorem dX1_readDrawer_16 : decode cX1_readDrawer 16 = .ok (.if_icmp .lt 12, 3) := by decide +kernel
theorem dX1_readDrawer_19 : decode cX1_readDrawer 19 = .ok (.aload_n 0, 1) := by decide +kernel
theorem dX1_readDrawer_20 : decode cX1_readDrawer 20 = .ok (.getfield 9, 3) := by decide +kernel
theorem dX1_readDrawer_23 : decode cX1_readDrawer 23 = .ok (.iconst 2, 1) := by decide +kernel
theorem dX1_readDrawer_24 : decode cX1_readDrawer 24 = .ok (.invokevirtual 84, 3) := by decide +kernel
theorem dX1_readDrawer_27 : decode cX1_readDrawer 27 = .ok (.ireturn, 1) := by decide +kernel
theorem dX1_readDrawer_28 : decode cX1_readDrawer 28 = .ok (.aload_n 0, 1) := by decide +kernel
theorem dX1_readDrawer_29 : decode cX1_readDrawer 29 = .ok (.getfield 9, 3) := by decide +kernel
theorem dX1_readDrawer_32 : decode cX1_readDrawer 32 = .ok (.invokevirtual 37, 3) := by decide +kernel
theorem dX1_readDrawer_35 : decode cX1_readDrawer 35 = .ok (.aload_n 0, 1) := by decide +kernel
theorem dX1_readDrawer_36 : decode cX1_readDrawer 36 = .ok (.iconst 0, 1) := by decide +kernel
theorem dX1_readDrawer_37 : decode cX1_readDrawer 37 = .ok (.aload_n 0, 1) := by decide +kernel
theorem dX1_readDrawer_38 : decode cX1_readDrawer 38 = .ok (.getfield 15, 3) := by decide +kernel
theorem dX1_readDrawer_41 : decode cX1_readDrawer 41 = .ok (.getfield 142, 3) := by decide +kernel
theorem dX1_readDrawer_44 : decode cX1_readDrawer 44 = .ok (.iconst 1, 1) := by decide +kernel
theorem dX1_readDrawer_45 : decode cX1_readDrawer 45 = .ok (.isub, 1) := by decide +kernel
theorem dX1_readDrawer_46 : decode cX1_readDrawer 46 = .ok (.invokevirtual 139, 3) := by decide +kernel
theorem dX1_readDrawer_49 : decode cX1_readDrawer 49 = .ok (.ifCond .ne 5, 3) := by decide +kernel
theorem dX1_readDrawer_52 : decode cX1_readDrawer 52 = .ok (.iconst 0, 1) := by decide +kernel
theorem dX1_readDrawer_53 : decode cX1_readDrawer 53 = .ok (.ireturn, 1) := by decide +kernel
theorem dX1_readDrawer_54 : decode cX1_readDrawer 54 = .ok (.aload_n 0, 1) := by decide +kernel
theorem dX1_readDrawer_55 : decode cX1_readDrawer 55 = .ok (.getfield 132, 3) := by decide +kernel
theorem dX1_readDrawer_58 : decode cX1_readDrawer 58 = .ok (.istore 4, 2) := by decide +kernel
theorem dX1_readDrawer_60 : decode cX1_readDrawer 60 = .ok (.aload_n 0, 1) := by decide +kernel
theorem dX1_readDrawer_61 : decode cX1_readDrawer 61 = .ok (.iconst 0, 1) := by decide +kernel
theorem dX1_readDrawer_62 : decode cX1_readDrawer 62 = .ok (.aload_n 0, 1) := by decide +kernel
theorem dX1_readDrawer_63 : decode cX1_readDrawer 63 = .ok (.getfield 15, 3) := by decide +kernel
theorem dX1_readDrawer_66 : decode cX1_readDrawer 66 = .ok (.getfield 145, 3) := by decide +kernel
theorem dX1_readDrawer_69 : decode cX1_readDrawer 69 = .ok (.iconst 1, 1) := by decide +kernel
theorem dX1_readDrawer_70 : decode cX1_readDrawer 70 = .ok (.isub, 1) := by decide +kernel
theorem dX1_readDrawer_71 : decode cX1_readDrawer 71 = .ok (.invokevirtual 135, 3) := by decide +kernel
theorem dX1_readDrawer_74 : decode cX1_readDrawer 74 = .ok (.ifCond .ne 5, 3) := by decide +kernel
theorem dX1_readDrawer_77 : decode cX1_readDrawer 77 = .ok (.iconst 0, 1) := by decide +kernel
theorem dX1_readDrawer_78 : decode cX1_readDrawer 78 = .ok (.ireturn, 1) := by decide +kernel
theorem dX1_readDrawer_79 : decode cX1_readDrawer 79 = .ok (.aload_n 0, 1) := by decide +kernel
theorem dX1_readDrawer_80 : decode cX1_readDrawer 80 = .ok (.getfield 132, 3) := by decide +kernel
theorem dX1_readDrawer_83 : decode cX1_readDrawer 83 = .ok (.istore 5, 2) := by decide +kernel
theorem dX1_readDrawer_85 : decode cX1_readDrawer 85 = .ok (.aload_n 2, 1) := by decide +kernel
theorem dX1_readDrawer_86 : decode cX1_readDrawer 86 = .ok (.iload 4, 2) := by decide +kernel
theorem dX1_readDrawer_88 : decode cX1_readDrawer 88 = .ok (.iload 5, 2) := by decide +kernel
theorem dX1_readDrawer_90 : decode cX1_readDrawer 90 = .ok (.invokevirtual 171, 3) := by decide +kernel
theorem dX1_readDrawer_93 : decode cX1_readDrawer 93 = .ok (.ifCond .eq 12, 3) := by decide +kernel
theorem dX1_readDrawer_96 : decode cX1_readDrawer 96 = .ok (.aload_n 0, 1) := by decide +kernel
theorem dX1_readDrawer_97 : decode cX1_readDrawer 97 = .ok (.getfield 9, 3) := by decide +kernel
theorem dX1_readDrawer_100 : decode cX1_readDrawer 100 = .ok (.iconst 5, 1) := by decide +kernel
theorem dX1_readDrawer_101 : decode cX1_readDrawer 101 = .ok (.invokevirtual 84, 3) := by decide +kernel
theorem dX1_readDrawer_104 : decode cX1_readDrawer 104 = .ok (.ireturn, 1) := by decide +kernel
theorem dX1_readDrawer_105 : decode cX1_readDrawer 105 = .ok (.aload_n 0, 1) := by decide +kernel
theorem dX1_readDrawer_106 : decode cX1_readDrawer 106 = .ok (.getfield 9, 3) := by decide +kernel
theorem dX1_readDrawer_109 : decode cX1_readDrawer 109 = .ok (.invokevirtual 37, 3) := by decide +kernel
theorem dX1_readDrawer_112 : decode cX1_readDrawer 112 = .ok (.aload_n 0, 1) := by decide +kernel
theorem dX1_readDrawer_113 : decode cX1_readDrawer 113 = .ok (.iconst 1, 1) := by decide +kernel
theorem dX1_readDrawer_114 : decode cX1_readDrawer 114 = .ok (.bipush 9, 2) := by decide +kernel
theorem dX1_readDrawer_116 : decode cX1_readDrawer 116 = .ok (.invokevirtual 139, 3) := by decide +kernel
theorem dX1_readDrawer_119 : decode cX1_readDrawer 119 = .ok (.ifCond .ne 5, 3) := by decide +kernel
theorem dX1_readDrawer_122 : decode cX1_readDrawer 122 = .ok (.iconst 0, 1) := by decide +kernel
theorem dX1_readDrawer_123 : decode cX1_readDrawer 123 = .ok (.ireturn, 1) := by decide +kernel
theorem dX1_readDrawer_124 : decode cX1_readDrawer 124 = .ok (.aload_n 2, 1) := by decide +kernel
theorem dX1_readDrawer_125 : decode cX1_readDrawer 125 = .ok (.iload_n 1, 1) := by decide +kernel
theorem dX1_readDrawer_126 : decode cX1_readDrawer 126 = .ok (.iload 4, 2) := by decide +kernel
theorem dX1_readDrawer_128 : decode cX1_readDrawer 128 = .ok (.iload 5, 2) := by decide +kernel
theorem dX1_readDrawer_130 : decode cX1_readDrawer 130 = .ok (.aload_n 0, 1) := by decide +kernel
theorem dX1_readDrawer_131 : decode cX1_readDrawer 131 = .ok (.getfield 132, 3) := by decide +kernel
theorem dX1_readDrawer_134 : decode cX1_readDrawer 134 = .ok (.invokevirtual 174, 3) := by decide +kernel
theorem dX1_readDrawer_137 : decode cX1_readDrawer 137 = .ok (.aload_n 0, 1) := by decide +kernel
theorem dX1_readDrawer_138 : decode cX1_readDrawer 138 = .ok (.getfield 9, 3) := by decide +kernel
theorem dX1_readDrawer_141 : decode cX1_readDrawer 141 = .ok (.ldc 178, 2) := by decide +kernel
theorem dX1_readDrawer_143 : decode cX1_readDrawer 143 = .ok (.invokevirtual 67, 3) := by decide +kernel
theorem dX1_readDrawer_146 : decode cX1_readDrawer 146 = .ok (.ifCond .eq 11, 3) := by decide +kernel
theorem dX1_readDrawer_149 : decode cX1_readDrawer 149 = .ok (.aload_n 0, 1) := by decide +kernel
theorem dX1_readDrawer_150 : decode cX1_readDrawer 150 = .ok (.iload_n 3, 1) := by decide +kernel
theorem dX1_readDrawer_151 : decode cX1_readDrawer 151 = .ok (.invokevirtual 180, 3) := by decide +kernel
theorem dX1_readDrawer_154 : decode cX1_readDrawer 154 = .ok (.ifCond .eq 7, 3) := by decide +kernel
theorem dX1_readDrawer_157 : decode cX1_readDrawer 157 = .ok (.iconst 1, 1) := by decide +kernel
theorem dX1_readDrawer_158 : decode cX1_readDrawer 158 = .ok (.goto 4, 3) := by decide +kernel
theorem dX1_readDrawer_161 : decode cX1_readDrawer 161 = .ok (.iconst 0, 1) := by decide +kernel
theorem dX1_readDrawer_162 : decode cX1_readDrawer 162 = .ok (.ireturn, 1) := by decide +kernel
theorem dX1_readWide_0 : decode cX1_readWide 0 = .ok (.aload_n 0, 1) := by decide +kernel
theorem dX1_readWide_1 : decode cX1_readWide 1 = .ok (.getfield 15, 3) := by decide +kernel
theorem dX1_readWide_4 : decode cX1_readWide 4 = .ok (.getfield 162, 3) := by decide +kernel
theorem dX1_readWide_7 : decode cX1_readWide 7 = .ok (.getfield 183, 3) := by decide +kernel
theorem dX1_readWide_10 : decode cX1_readWide 10 = .ok (.iload_n 1, 1) := by decide +kernel
theorem dX1_readWide_11 : decode cX1_readWide 11 = .ok (.iaload, 1) := by decide +kernel
theorem dX1_readWide_12 : decode cX1_readWide 12 = .ok (.iconst 1, 1) := by decide +kernel
theorem dX1_readWide_13 : decode cX1_readWide 13 = .ok (.iadd, 1) := by decide +kernel
theorem dX1_readWide_14 : decode cX1_readWide 14 = .ok (.istore_n 2, 1) := by decide +kernel
theorem dX1_readWide_15 : decode cX1_readWide 15 = .ok (.iload_n 2, 1) := by decide +kernel
theorem dX1_readWide_16 : decode cX1_readWide 16 = .ok (.aload_n 0, 1) := by decide +kernel
theorem dX1_readWide_17 : decode cX1_readWide 17 = .ok (.getfield 15, 3) := by decide +kernel
theorem dX1_readWide_20 : decode cX1_readWide 20 = .ok (.getfield 142, 3) := by decide +kernel
theorem dX1_readWide_23 : decode cX1_readWide 23 = .ok (.if_icmp .lt 12, 3) := by decide +kernel
theorem dX1_readWide_26 : decode cX1_readWide 26 = .ok (.aload_n 0, 1) := by decide +kernel
theorem dX1_readWide_27 : decode cX1_readWide 27 = .ok (.getfield 9, 3) := by decide +kernel
theorem dX1_readWide_30 : decode cX1_readWide 30 = .ok (.iconst 2, 1) := by decide +kernel
theorem dX1_readWide_31 : decode cX1_readWide 31 = .ok (.invokevirtual 84, 3) := by decide +kernel
theorem dX1_readWide_34 : decode cX1_readWide 34 = .ok (.ireturn, 1) := by decide +kernel
theorem dX1_readWide_35 : decode cX1_readWide 35 = .ok (.aload_n 0, 1) := by decide +kernel
theorem dX1_readWide_36 : decode cX1_readWide 36 = .ok (.getfield 15, 3) := by decide +kernel
theorem dX1_readWide_39 : decode cX1_readWide 39 = .ok (.getfield 162, 3) := by decide +kernel
theorem dX1_readWide_42 : decode cX1_readWide 42 = .ok (.iload_n 2, 1) := by decide +kernel
theorem dX1_readWide_43 : decode cX1_readWide 43 = .ok (.aload_n 0, 1) := by decide +kernel
theorem dX1_readWide_44 : decode cX1_readWide 44 = .ok (.getfield 15, 3) := by decide +kernel
theorem dX1_readWide_47 : decode cX1_readWide 47 = .ok (.getfield 162, 3) := by decide +kernel
theorem dX1_readWide_50 : decode cX1_readWide 50 = .ok (.getfield 187, 3) := by decide +kernel
theorem dX1_readWide_53 : decode cX1_readWide 53 = .ok (.iload_n 1, 1) := by decide +kernel
theorem dX1_readWide_54 : decode cX1_readWide 54 = .ok (.iaload, 1) := by decide +kernel
theorem dX1_readWide_55 : decode cX1_readWide 55 = .ok (.invokevirtual 171, 3) := by decide +kernel
theorem dX1_readWide_58 : decode cX1_readWide 58 = .ok (.ifCond .eq 12, 3) := by decide +kernel
theorem dX1_readWide_61 : decode cX1_readWide 61 = .ok (.aload_n 0, 1) := by decide +kernel
theorem dX1_readWide_62 : decode cX1_readWide 62 = .ok (.getfield 9, 3) := by decide +kernel
theorem dX1_readWide_65 : decode cX1_readWide 65 = .ok (.iconst 5, 1) := by decide +kernel
theorem dX1_readWide_66 : decode cX1_readWide 66 = .ok (.invokevirtual 84, 3) := by decide +kernel
theorem dX1_readWide_69 : decode cX1_readWide 69 = .ok (.ireturn, 1) := by decide +kernel
theorem dX1_readWide_70 : decode cX1_readWide 70 = .ok (.aload_n 0, 1) := by decide +kernel
theorem dX1_readWide_71 : decode cX1_readWide 71 = .ok (.getfield 15, 3) := by decide +kernel
theorem dX1_readWide_74 : decode cX1_readWide 74 = .ok (.getfield 162, 3) := by decide +kernel
theorem dX1_readWide_77 : decode cX1_readWide 77 = .ok (.getfield 190, 3) := by decide +kernel
theorem dX1_readWide_80 : decode cX1_readWide 80 = .ok (.iload_n 1, 1) := by decide +kernel
theorem dX1_readWide_81 : decode cX1_readWide 81 = .ok (.iload_n 2, 1) := by decide +kernel
theorem dX1_readWide_82 : decode cX1_readWide 82 = .ok (.iastore, 1) := by decide +kernel
theorem dX1_readWide_83 : decode cX1_readWide 83 = .ok (.aload_n 0, 1) := by decide +kernel
theorem dX1_readWide_84 : decode cX1_readWide 84 = .ok (.getfield 9, 3) := by decide +kernel
theorem dX1_readWide_87 : decode cX1_readWide 87 = .ok (.invokevirtual 37, 3) := by decide +kernel
theorem dX1_readWide_90 : decode cX1_readWide 90 = .ok (.iconst 1, 1) := by decide +kernel
theorem dX1_readWide_91 : decode cX1_readWide 91 = .ok (.ireturn, 1) := by decide +kernel
theorem dX1_readDrawerOf_0 : decode cX1_readDrawerOf 0 = .ok (.aload_n 0, 1) := by decide +kernel
theorem dX1_readDrawerOf_1 : decode cX1_readDrawerOf 1 = .ok (.iconst 0, 1) := by decide +kernel
theorem dX1_readDrawerOf_2 : decode cX1_readDrawerOf 2 = .ok (.sipush 9999, 3) := by decide +kernel
theorem dX1_readDrawerOf_5 : decode cX1_readDrawerOf 5 = .ok (.invokevirtual 135, 3) := by decide +kernel
theorem dX1_readDrawerOf_8 : decode cX1_readDrawerOf 8 = .ok (.ifCond .ne 5, 3) := by decide +kernel
theorem dX1_readDrawerOf_11 : decode cX1_readDrawerOf 11 = .ok (.iconst 0, 1) := by decide +kernel
theorem dX1_readDrawerOf_12 : decode cX1_readDrawerOf 12 = .ok (.ireturn, 1) := by decide +kernel
theorem dX1_readDrawerOf_13 : decode cX1_readDrawerOf 13 = .ok (.aload_n 0, 1) := by decide +kernel
theorem dX1_readDrawerOf_14 : decode cX1_readDrawerOf 14 = .ok (.getfield 132, 3) := by decide +kernel
theorem dX1_readDrawerOf_17 : decode cX1_readDrawerOf 17 = .ok (.aload_n 0, 1) := by decide +kernel
theorem dX1_readDrawerOf_18 : decode cX1_readDrawerOf 18 = .ok (.getfield 15, 3) := by decide +kernel
theorem dX1_readDrawerOf_21 : decode cX1_readDrawerOf 21 = .ok (.getfield 162, 3) := by decide +kernel
theorem dX1_readDrawerOf_24 : decode cX1_readDrawerOf 24 = .ok (.getfield 166, 3) := by decide +kernel
theorem dX1_readDrawerOf_27 : decode cX1_readDrawerOf 27 = .ok (.if_icmp .lt 12, 3) := by decide +kernel
theorem dX1_readDrawerOf_30 : decode cX1_readDrawerOf 30 = .ok (.aload_n 0, 1) := by decide +kernel
theorem dX1_readDrawerOf_31 : decode cX1_readDrawerOf 31 = .ok (.getfield 9, 3) := by decide +kernel
theorem dX1_readDrawerOf_34 : decode cX1_readDrawerOf 34 = .ok (.iconst 3, 1) := by decide +kernel
theorem dX1_readDrawerOf_35 : decode cX1_readDrawerOf 35 = .ok (.invokevirtual 84, 3) := by decide +kernel
theorem dX1_readDrawerOf_38 : decode cX1_readDrawerOf 38 = .ok (.ireturn, 1) := by decide +kernel
theorem dX1_readDrawerOf_39 : decode cX1_readDrawerOf 39 = .ok (.aload_n 0, 1) := by decide +kernel
theorem dX1_readDrawerOf_40 : decode cX1_readDrawerOf 40 = .ok (.getfield 15, 3) := by decide +kernel
theorem dX1_readDrawerOf_43 : decode cX1_readDrawerOf 43 = .ok (.getfield 162, 3) := by decide +kernel
theorem dX1_readDrawerOf_46 : decode cX1_readDrawerOf 46 = .ok (.getfield 193, 3) := by decide +kernel
theorem dX1_readDrawerOf_49 : decode cX1_readDrawerOf 49 = .ok (.aload_n 0, 1) := by decide +kernel
theorem dX1_readDrawerOf_50 : decode cX1_readDrawerOf 50 = .ok (.getfield 132, 3) := by decide +kernel
theorem dX1_readDrawerOf_53 : decode cX1_readDrawerOf 53 = .ok (.iaload, 1) := by decide +kernel
theorem dX1_readDrawerOf_54 : decode cX1_readDrawerOf 54 = .ok (.iload_n 1, 1) := by decide +kernel
theorem dX1_readDrawerOf_55 : decode cX1_readDrawerOf 55 = .ok (.if_icmp .eq 12, 3) := by decide +kernel
theorem dX1_readDrawerOf_58 : decode cX1_readDrawerOf 58 = .ok (.aload_n 0, 1) := by decide +kernel
theorem dX1_readDrawerOf_59 : decode cX1_readDrawerOf 59 = .ok (.getfield 9, 3) := by decide +kernel
theorem dX1_readDrawerOf_62 : decode cX1_readDrawerOf 62 = .ok (.iconst 5, 1) := by decide +kernel
theorem dX1_readDrawerOf_63 : decode cX1_readDrawerOf 63 = .ok (.invokevirtual 84, 3) := by decide +kernel
theorem dX1_readDrawerOf_66 : decode cX1_readDrawerOf 66 = .ok (.ireturn, 1) := by decide +kernel
theorem dX1_readDrawerOf_67 : decode cX1_readDrawerOf 67 = .ok (.aload_n 0, 1) := by decide +kernel
theorem dX1_readDrawerOf_68 : decode cX1_readDrawerOf 68 = .ok (.getfield 9, 3) := by decide +kernel
theorem dX1_readDrawerOf_71 : decode cX1_readDrawerOf 71 = .ok (.invokevirtual 37, 3) := by decide +kernel
theorem dX1_readDrawerOf_74 : decode cX1_readDrawerOf 74 = .ok (.iconst 1, 1) := by decide +kernel
theorem dX1_readDrawerOf_75 : decode cX1_readDrawerOf 75 = .ok (.ireturn, 1) := by decide +kernel
theorem dX1_readPerson_0 : decode cX1_readPerson 0 = .ok (.aload_n 0, 1) := by decide +kernel
theorem dX1_readPerson_1 : decode cX1_readPerson 1 = .ok (.getfield 15, 3) := by decide +kernel
theorem dX1_readPerson_4 : decode cX1_readPerson 4 = .ok (.getfield 196, 3) := by decide +kernel
theorem dX1_readPerson_7 : decode cX1_readPerson 7 = .ok (.getfield 200, 3) := by decide +kernel
theorem dX1_readPerson_10 : decode cX1_readPerson 10 = .ok (.istore_n 1, 1) := by decide +kernel
theorem dX1_readPerson_11 : decode cX1_readPerson 11 = .ok (.iload_n 1, 1) := by decide +kernel
theorem dX1_readPerson_12 : decode cX1_readPerson 12 = .ok (.iconst 5, 1) := by decide +kernel
theorem dX1_readPerson_13 : decode cX1_readPerson 13 = .ok (.if_icmp .lt 12, 3) := by decide +kernel
theorem dX1_readPerson_16 : decode cX1_readPerson 16 = .ok (.aload_n 0, 1) := by decide +kernel
theorem dX1_readPerson_17 : decode cX1_readPerson 17 = .ok (.getfield 9, 3) := by decide +kernel
theorem dX1_readPerson_20 : decode cX1_readPerson 20 = .ok (.iconst 2, 1) := by decide +kernel
theorem dX1_readPerson_21 : decode cX1_readPerson 21 = .ok (.invokevirtual 84, 3) := by decide +kernel
theorem dX1_readPerson_24 : decode cX1_readPerson 24 = .ok (.ireturn, 1) := by decide +kernel
theorem dX1_readPerson_25 : decode cX1_readPerson 25 = .ok (.aload_n 0, 1) := by decide +kernel
theorem dX1_readPerson_26 : decode cX1_readPerson 26 = .ok (.getfield 9, 3) := by decide +kernel
theorem dX1_readPerson_29 : decode cX1_readPerson 29 = .ok (.invokevirtual 37, 3) := by decide +kernel
theorem dX1_readPerson_32 : decode cX1_readPerson 32 = .ok (.aload_n 0, 1) := by decide +kernel
theorem dX1_readPerson_33 : decode cX1_readPerson 33 = .ok (.iconst 0, 1) := by decide +kernel
theorem dX1_readPerson_34 : decode cX1_readPerson 34 = .ok (.invokevirtual 203, 3) := by decide +kernel
theorem dX1_readPerson_37 : decode cX1_readPerson 37 = .ok (.ifCond .ne 5, 3) := by decide +kernel
theorem dX1_readPerson_40 : decode cX1_readPerson 40 = .ok (.iconst 0, 1) := by decide +kernel
theorem dX1_readPerson_41 : decode cX1_readPerson 41 = .ok (.ireturn, 1) := by decide +kernel
theorem dX1_readPerson_42 : decode cX1_readPerson 42 = .ok (.aload_n 0, 1) := by decide +kernel
theorem dX1_readPerson_43 : decode cX1_readPerson 43 = .ok (.getfield 15, 3) := by decide +kernel
theorem dX1_readPerson_46 : decode cX1_readPerson 46 = .ok (.getfield 196, 3) := by decide +kernel
theorem dX1_readPerson_49 : decode cX1_readPerson 49 = .ok (.aload_n 0, 1) := by decide +kernel
theorem dX1_readPerson_50 : decode cX1_readPerson 50 = .ok (.getfield 132, 3) := by decide +kernel
theorem dX1_readPerson_53 : decode cX1_readPerson 53 = .ok (.invokevirtual 206, 3) := by decide +kernel
theorem dX1_readPerson_56 : decode cX1_readPerson 56 = .ok (.aload_n 0, 1) := by decide +kernel
theorem dX1_readPerson_57 : decode cX1_readPerson 57 = .ok (.getfield 9, 3) := by decide +kernel
theorem dX1_readPerson_60 : decode cX1_readPerson 60 = .ok (.ldc 209, 2) := by decide +kernel
theorem dX1_readPerson_62 : decode cX1_readPerson 62 = .ok (.invokevirtual 67, 3) := by decide +kernel
theorem dX1_readPerson_65 : decode cX1_readPerson 65 = .ok (.ifCond .eq 36, 3) := by decide +kernel
theorem dX1_readPerson_68 : decode cX1_readPerson 68 = .ok (.aload_n 0, 1) := by decide +kernel
theorem dX1_readPerson_69 : decode cX1_readPerson 69 = .ok (.getfield 9, 3) := by decide +kernel
theorem dX1_readPerson_72 : decode cX1_readPerson 72 = .ok (.invokevirtual 37, 3) := by decide +kernel
theorem dX1_readPerson_75 : decode cX1_readPerson 75 = .ok (.aload_n 0, 1) := by decide +kernel
theorem dX1_readPerson_76 : decode cX1_readPerson 76 = .ok (.iconst 1, 1) := by decide +kernel
theorem dX1_readPerson_77 : decode cX1_readPerson 77 = .ok (.invokevirtual 203, 3) := by decide +kernel
theorem dX1_readPerson_80 : decode cX1_readPerson 80 = .ok (.ifCond .ne 5, 3) := by decide +kernel
theorem dX1_readPerson_83 : decode cX1_readPerson 83 = .ok (.iconst 0, 1) := by decide +kernel
theorem dX1_readPerson_84 : decode cX1_readPerson 84 = .ok (.ireturn, 1) := by decide +kernel
theorem dX1_readPerson_85 : decode cX1_readPerson 85 = .ok (.aload_n 0, 1) := by decide +kernel
theorem dX1_readPerson_86 : decode cX1_readPerson 86 = .ok (.getfield 15, 3) := by decide +kernel
theorem dX1_readPerson_89 : decode cX1_readPerson 89 = .ok (.getfield 196, 3) := by decide +kernel
theorem dX1_readPerson_92 : decode cX1_readPerson 92 = .ok (.getfield 211, 3) := by decide +kernel
theorem dX1_readPerson_95 : decode cX1_readPerson 95 = .ok (.iload_n 1, 1) := by decide +kernel
theorem dX1_readPerson_96 : decode cX1_readPerson 96 = .ok (.aload_n 0, 1) := by decide +kernel
theorem dX1_readPerson_97 : decode cX1_readPerson 97 = .ok (.getfield 132, 3) := by decide +kernel
theorem dX1_readPerson_100 : decode cX1_readPerson 100 = .ok (.iastore, 1) := by decide +kernel
theorem dX1_readPerson_101 : decode cX1_readPerson 101 = .ok (.aload_n 0, 1) := by decide +kernel
theorem dX1_readPerson_102 : decode cX1_readPerson 102 = .ok (.getfield 9, 3) := by decide +kernel
theorem dX1_readPerson_105 : decode cX1_readPerson 105 = .ok (.ldc 213, 2) := by decide +kernel
theorem dX1_readPerson_107 : decode cX1_readPerson 107 = .ok (.invokevirtual 67, 3) := by decide +kernel
theorem dX1_readPerson_110 : decode cX1_readPerson 110 = .ok (.ifCond .eq 38, 3) := by decide +kernel
theorem dX1_readPerson_113 : decode cX1_readPerson 113 = .ok (.aload_n 0, 1) := by decide +kernel
theorem dX1_readPerson_114 : decode cX1_readPerson 114 = .ok (.getfield 9, 3) := by decide +kernel
theorem dX1_readPerson_117 : decode cX1_readPerson 117 = .ok (.invokevirtual 37, 3) := by decide +kernel
theorem dX1_readPerson_120 : decode cX1_readPerson 120 = .ok (.aload_n 0, 1) := by decide +kernel
theorem dX1_readPerson_121 : decode cX1_readPerson 121 = .ok (.iconst 0, 1) := by decide +kernel
theorem dX1_readPerson_122 : decode cX1_readPerson 122 = .ok (.bipush 99, 2) := by decide +kernel
theorem dX1_readPerson_124 : decode cX1_readPerson 124 = .ok (.invokevirtual 139, 3) := by decide +kernel
theorem dX1_readPerson_127 : decode cX1_readPerson 127 = .ok (.ifCond .ne 5, 3) := by decide +kernel
theorem dX1_readPerson_130 : decode cX1_readPerson 130 = .ok (.iconst 0, 1) := by decide +kernel
theorem dX1_readPerson_131 : decode cX1_readPerson 131 = .ok (.ireturn, 1) := by decide +kernel
theorem dX1_readPerson_132 : decode cX1_readPerson 132 = .ok (.aload_n 0, 1) := by decide +kernel
theorem dX1_readPerson_133 : decode cX1_readPerson 133 = .ok (.getfield 15, 3) := by decide +kernel
theorem dX1_readPerson_136 : decode cX1_readPerson 136 = .ok (.getfield 196, 3) := by decide +kernel
theorem dX1_readPerson_139 : decode cX1_readPerson 139 = .ok (.getfield 215, 3) := by decide +kernel
theorem dX1_readPerson_142 : decode cX1_readPerson 142 = .ok (.iload_n 1, 1) := by decide +kernel
theorem dX1_readPerson_143 : decode cX1_readPerson 143 = .ok (.aload_n 0, 1) := by decide +kernel
theorem dX1_readPerson_144 : decode cX1_readPerson 144 = .ok (.getfield 132, 3) := by decide +kernel
theorem dX1_readPerson_147 : decode cX1_readPerson 147 = .ok (.iastore, 1) := by decide +kernel
theorem dX1_readPerson_148 : decode cX1_readPerson 148 = .ok (.iconst 1, 1) := by decide +kernel
theorem dX1_readPerson_149 : decode cX1_readPerson 149 = .ok (.ireturn, 1) := by decide +kernel
theorem dX1_readRule_0 : decode cX1_readRule 0 = .ok (.aload_n 0, 1) := by decide +kernel
theorem dX1_readRule_1 : decode cX1_readRule 1 = .ok (.getfield 15, 3) := by decide +kernel
theorem dX1_readRule_4 : decode cX1_readRule 4 = .ok (.getfield 21, 3) := by decide +kernel
theorem dX1_readRule_7 : decode cX1_readRule 7 = .ok (.getfield 217, 3) := by decide +kernel
theorem dX1_readRule_10 : decode cX1_readRule 10 = .ok (.iconst 4, 1) := by decide +kernel
theorem dX1_readRule_11 : decode cX1_readRule 11 = .ok (.if_icmp .lt 12, 3) := by decide +kernel
theorem dX1_readRule_14 : decode cX1_readRule 14 = .ok (.aload_n 0, 1) := by decide +kernel
theorem dX1_readRule_15 : decode cX1_readRule 15 = .ok (.getfield 9, 3) := by decide +kernel
theorem dX1_readRule_18 : decode cX1_readRule 18 = .ok (.iconst 2, 1) := by decide +kernel
theorem dX1_readRule_19 : decode cX1_readRule 19 = .ok (.invokevirtual 84, 3) := by decide +kernel
theorem dX1_readRule_22 : decode cX1_readRule 22 = .ok (.ireturn, 1) := by decide +kernel
theorem dX1_readRule_23 : decode cX1_readRule 23 = .ok (.aload_n 0, 1) := by decide +kernel
theorem dX1_readRule_24 : decode cX1_readRule 24 = .ok (.getfield 9, 3) := by decide +kernel
theorem dX1_readRule_27 : decode cX1_readRule 27 = .ok (.invokevirtual 37, 3) := by decide +kernel
theorem dX1_readRule_30 : decode cX1_readRule 30 = .ok (.aload_n 0, 1) := by decide +kernel
theorem dX1_readRule_31 : decode cX1_readRule 31 = .ok (.getfield 30, 3) := by decide +kernel
theorem dX1_readRule_34 : decode cX1_readRule 34 = .ok (.iconst 0, 1) := by decide +kernel
theorem dX1_readRule_35 : decode cX1_readRule 35 = .ok (.invokevirtual 220, 3) := by decide +kernel
theorem dX1_readRule_38 : decode cX1_readRule 38 = .ok (.ifCond .ne 5, 3) := by decide +kernel
theorem dX1_readRule_41 : decode cX1_readRule 41 = .ok (.iconst 0, 1) := by decide +kernel
theorem dX1_readRule_42 : decode cX1_readRule 42 = .ok (.ireturn, 1) := by decide +kernel
theorem dX1_readRule_43 : decode cX1_readRule 43 = .ok (.aload_n 0, 1) := by decide +kernel
theorem dX1_readRule_44 : decode cX1_readRule 44 = .ok (.getfield 15, 3) := by decide +kernel
theorem dX1_readRule_47 : decode cX1_readRule 47 = .ok (.getfield 21, 3) := by decide +kernel
theorem dX1_readRule_50 : decode cX1_readRule 50 = .ok (.invokevirtual 223, 3) := by decide +kernel
theorem dX1_readRule_53 : decode cX1_readRule 53 = .ok (.iconst 1, 1) := by decide +kernel
theorem dX1_readRule_54 : decode cX1_readRule 54 = .ok (.ireturn, 1) := by decide +kernel
theorem dX2_init_0 : decode cX2_init 0 = .ok (.aload_n 0, 1) := by decide +kernel
theorem dX2_init_1 : decode cX2_init 1 = .ok (.invokespecial 3, 3) := by decide +kernel
theorem dX2_init_4 : decode cX2_init 4 = .ok (.aload_n 0, 1) := by decide +kernel
theorem dX2_init_5 : decode cX2_init 5 = .ok (.bipush 10, 2) := by decide +kernel
theorem dX2_init_7 : decode cX2_init 7 = .ok (.newarray .int, 2) := by decide +kernel
theorem dX2_init_9 : decode cX2_init 9 = .ok (.putfield 9, 3) := by decide +kernel
theorem dX2_init_12 : decode cX2_init 12 = .ok (.aload_n 0, 1) := by decide +kernel
theorem dX2_init_13 : decode cX2_init 13 = .ok (.bipush 10, 2) := by decide +kernel
theorem dX2_init_15 : decode cX2_init 15 = .ok (.newarray .int, 2) := by decide +kernel
theorem dX2_init_17 : decode cX2_init 17 = .ok (.putfield 15, 3) := by decide +kernel
theorem dX2_init_20 : decode cX2_init 20 = .ok (.aload_n 0, 1) := by decide +kernel
theorem dX2_init_21 : decode cX2_init 21 = .ok (.bipush 10, 2) := by decide +kernel
