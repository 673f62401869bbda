theorem dX0_init_0 : decode cX0_init 0 = .ok (.aload_n 0, 1) := by decide +kernel
theorem dX0_init_1 : decode cX0_init 1 = .ok (.invokespecial 3, 3) := by decide +kernel
theorem dX0_init_4 : decode cX0_init 4 = .ok (.aload_n 0, 1) := by decide +kernel
theorem dX0_init_5 : decode cX0_init 5 = .ok (.ldc 9, 2) := by decide +kernel
theorem dX0_init_7 : decode cX0_init 7 = .ok (.putfield 11, 3) := by decide +kernel
theorem dX0_init_10 : decode cX0_init 10 = .ok (.return_, 1) := by decide +kernel
theorem dX0_copyFrom_0 : decode cX0_copyFrom 0 = .ok (.aload_n 0, 1) := by decide +kernel
theorem dX0_copyFrom_1 : decode cX0_copyFrom 1 = .ok (.aload_n 1, 1) := by decide +kernel
theorem dX0_copyFrom_2 : decode cX0_copyFrom 2 = .ok (.getfield 11, 3) := by decide +kernel
theorem dX0_copyFrom_5 : decode cX0_copyFrom 5 = .ok (.putfield 11, 3) := by decide +kernel
theorem dX0_copyFrom_8 : decode cX0_copyFrom 8 = .ok (.aload_n 0, 1) := by decide +kernel
theorem dX0_copyFrom_9 : decode cX0_copyFrom 9 = .ok (.aload_n 1, 1) := by decide +kernel
theorem dX0_copyFrom_10 : decode cX0_copyFrom 10 = .ok (.getfield 17, 3) := by decide +kernel
theorem dX0_copyFrom_13 : decode cX0_copyFrom 13 = .ok (.putfield 17, 3) := by decide +kernel
theorem dX0_copyFrom_16 : decode cX0_copyFrom 16 = .ok (.aload_n 0, 1) := by decide +kernel
theorem dX0_copyFrom_17 : decode cX0_copyFrom 17 = .ok (.aload_n 1, 1) := by decide +kernel
theorem dX0_copyFrom_18 : decode cX0_copyFrom 18 = .ok (.getfield 21, 3) := by decide +kernel
theorem dX0_copyFrom_21 : decode cX0_copyFrom 21 = .ok (.putfield 21, 3) := by decide +kernel
theorem dX0_copyFrom_24 : decode cX0_copyFrom 24 = .ok (.aload_n 0, 1) := by decide +kernel
theorem dX0_copyFrom_25 : decode cX0_copyFrom 25 = .ok (.aload_n 1, 1) := by decide +kernel
theorem dX0_copyFrom_26 : decode cX0_copyFrom 26 = .ok (.getfield 25, 3) := by decide +kernel
theorem dX0_copyFrom_29 : decode cX0_copyFrom 29 = .ok (.putfield 25, 3) := by decide +kernel
theorem dX0_copyFrom_32 : decode cX0_copyFrom 32 = .ok (.aload_n 0, 1) := by decide +kernel
theorem dX0_copyFrom_33 : decode cX0_copyFrom 33 = .ok (.aload_n 1, 1) := by decide +kernel
theorem dX0_copyFrom_34 : decode cX0_copyFrom 34 = .ok (.getfield 28, 3) := by decide +kernel
theorem dX0_copyFrom_37 : decode cX0_copyFrom 37 = .ok (.putfield 28, 3) := by decide +kernel
theorem dX0_copyFrom_40 : decode cX0_copyFrom 40 = .ok (.aload_n 0, 1) := by decide +kernel
theorem dX0_copyFrom_41 : decode cX0_copyFrom 41 = .ok (.aload_n 1, 1) := by decide +kernel
theorem dX0_copyFrom_42 : decode cX0_copyFrom 42 = .ok (.getfield 31, 3) := by decide +kernel
theorem dX0_copyFrom_45 : decode cX0_copyFrom 45 = .ok (.putfield 31, 3) := by decide +kernel
theorem dX0_copyFrom_48 : decode cX0_copyFrom 48 = .ok (.return_, 1) := by decide +kernel
theorem dX0_begin_0 : decode cX0_begin 0 = .ok (.aload_n 0, 1) := by decide +kernel
theorem dX0_begin_1 : decode cX0_begin 1 = .ok (.iconst 0, 1) := by decide +kernel
theorem dX0_begin_2 : decode cX0_begin 2 = .ok (.putfield 25, 3) := by decide +kernel
theorem dX0_begin_5 : decode cX0_begin 5 = .ok (.aload_n 0, 1) := by decide +kernel
theorem dX0_begin_6 : decode cX0_begin 6 = .ok (.iconst 0, 1) := by decide +kernel
theorem dX0_begin_7 : decode cX0_begin 7 = .ok (.putfield 28, 3) := by decide +kernel
theorem dX0_begin_10 : decode cX0_begin 10 = .ok (.aload_n 0, 1) := by decide +kernel
theorem dX0_begin_11 : decode cX0_begin 11 = .ok (.iconst 0, 1) := by decide +kernel
theorem dX0_begin_12 : decode cX0_begin 12 = .ok (.putfield 31, 3) := by decide +kernel
theorem dX0_begin_15 : decode cX0_begin 15 = .ok (.return_, 1) := by decide +kernel
theorem dX0_strength_0 : decode cX0_strength 0 = .ok (.aload_n 0, 1) := by decide +kernel
theorem dX0_strength_1 : decode cX0_strength 1 = .ok (.getfield 17, 3) := by decide +kernel
theorem dX0_strength_4 : decode cX0_strength 4 = .ok (.aload_n 0, 1) := by decide +kernel
theorem dX0_strength_5 : decode cX0_strength 5 = .ok (.getfield 25, 3) := by decide +kernel
theorem dX0_strength_8 : decode cX0_strength 8 = .ok (.iconst 4, 1) := by decide +kernel
theorem dX0_strength_9 : decode cX0_strength 9 = .ok (.idiv, 1) := by decide +kernel
theorem dX0_strength_10 : decode cX0_strength 10 = .ok (.isub, 1) := by decide +kernel
theorem dX0_strength_11 : decode cX0_strength 11 = .ok (.iconst 0, 1) := by decide +kernel
theorem dX0_strength_12 : decode cX0_strength 12 = .ok (.invokestatic 34, 3) := by decide +kernel
theorem dX0_strength_15 : decode cX0_strength 15 = .ok (.ireturn, 1) := by decide +kernel
theorem dX0_tire_0 : decode cX0_tire 0 = .ok (.aload_n 0, 1) := by decide +kernel
theorem dX0_tire_1 : decode cX0_tire 1 = .ok (.aload_n 0, 1) := by decide +kernel
theorem dX0_tire_2 : decode cX0_tire 2 = .ok (.getfield 25, 3) := by decide +kernel
theorem dX0_tire_5 : decode cX0_tire 5 = .ok (.iconst 1, 1) := by decide +kernel
theorem dX0_tire_6 : decode cX0_tire 6 = .ok (.iadd, 1) := by decide +kernel
theorem dX0_tire_7 : decode cX0_tire 7 = .ok (.bipush 20, 2) := by decide +kernel
theorem dX0_tire_9 : decode cX0_tire 9 = .ok (.invokestatic 40, 3) := by decide +kernel
theorem dX0_tire_12 : decode cX0_tire 12 = .ok (.putfield 25, 3) := by decide +kernel
theorem dX0_tire_15 : decode cX0_tire 15 = .ok (.return_, 1) := by decide +kernel
theorem dX0_recover_0 : decode cX0_recover 0 = .ok (.aload_n 0, 1) := by decide +kernel
theorem dX0_recover_1 : decode cX0_recover 1 = .ok (.aload_n 0, 1) := by decide +kernel
theorem dX0_recover_2 : decode cX0_recover 2 = .ok (.getfield 25, 3) := by decide +kernel
theorem dX0_recover_5 : decode cX0_recover 5 = .ok (.iload_n 1, 1) := by decide +kernel
theorem dX0_recover_6 : decode cX0_recover 6 = .ok (.isub, 1) := by decide +kernel
theorem dX0_recover_7 : decode cX0_recover 7 = .ok (.iconst 0, 1) := by decide +kernel
theorem dX0_recover_8 : decode cX0_recover 8 = .ok (.invokestatic 34, 3) := by decide +kernel
theorem dX0_recover_11 : decode cX0_recover 11 = .ok (.putfield 25, 3) := by decide +kernel
theorem dX0_recover_14 : decode cX0_recover 14 = .ok (.return_, 1) := by decide +kernel
theorem dX1_init_0 : decode cX1_init 0 = .ok (.aload_n 0, 1) := by decide +kernel
theorem dX1_init_1 : decode cX1_init 1 = .ok (.invokespecial 3, 3) := by decide +kernel
theorem dX1_init_4 : decode cX1_init 4 = .ok (.aload_n 0, 1) := by decide +kernel
theorem dX1_init_5 : decode cX1_init 5 = .ok (.bipush 16, 2) := by decide +kernel
theorem dX1_init_7 : decode cX1_init 7 = .ok (.newarray .int, 2) := by decide +kernel
theorem dX1_init_9 : decode cX1_init 9 = .ok (.putfield 9, 3) := by decide +kernel
theorem dX1_init_12 : decode cX1_init 12 = .ok (.aload_n 0, 1) := by decide +kernel
theorem dX1_init_13 : decode cX1_init 13 = .ok (.bipush 16, 2) := by decide +kernel
theorem dX1_init_15 : decode cX1_init 15 = .ok (.newarray .int, 2) := by decide +kernel
theorem dX1_init_17 : decode cX1_init 17 = .ok (.putfield 15, 3) := by decide +kernel
theorem dX1_init_20 : decode cX1_init 20 = .ok (.aload_n 0, 1) := by decide +kernel
theorem dX1_init_21 : decode cX1_init 21 = .ok (.bipush 16, 2) := by decide +kernel
theorem dX1_init_23 : decode cX1_init 23 = .ok (.newarray .int, 2) := by decide +kernel
theorem dX1_init_25 : decode cX1_init 25 = .ok (.putfield 18, 3) := by decide +kernel
theorem dX1_init_28 : decode cX1_init 28 = .ok (.return_, 1) := by decide +kernel
theorem dX1_copyFrom_0 : decode cX1_copyFrom 0 = .ok (.aload_n 1, 1) := by decide +kernel
theorem dX1_copyFrom_1 : decode cX1_copyFrom 1 = .ok (.getfield 9, 3) := by decide +kernel
theorem dX1_copyFrom_4 : decode cX1_copyFrom 4 = .ok (.iconst 0, 1) := by decide +kernel
theorem dX1_copyFrom_5 : decode cX1_copyFrom 5 = .ok (.aload_n 0, 1) := by decide +kernel
theorem dX1_copyFrom_6 : decode cX1_copyFrom 6 = .ok (.getfield 9, 3) := by decide +kernel
theorem dX1_copyFrom_9 : decode cX1_copyFrom 9 = .ok (.iconst 0, 1) := by decide +kernel
theorem dX1_copyFrom_10 : decode cX1_copyFrom 10 = .ok (.bipush 16, 2) := by decide +kernel
theorem dX1_copyFrom_12 : decode cX1_copyFrom 12 = .ok (.invokestatic 21, 3) := by decide +kernel
theorem dX1_copyFrom_15 : decode cX1_copyFrom 15 = .ok (.aload_n 1, 1) := by decide +kernel
theorem dX1_copyFrom_16 : decode cX1_copyFrom 16 = .ok (.getfield 15, 3) := by decide +kernel
theorem dX1_copyFrom_19 : decode cX1_copyFrom 19 = .ok (.iconst 0, 1) := by decide +kernel
theorem dX1_copyFrom_20 : decode cX1_copyFrom 20 = .ok (.aload_n 0, 1) := by decide +kernel
theorem dX1_copyFrom_21 : decode cX1_copyFrom 21 = .ok (.getfield 15, 3) := by decide +kernel
theorem dX1_copyFrom_24 : decode cX1_copyFrom 24 = .ok (.iconst 0, 1) := by decide +kernel
theorem dX1_copyFrom_25 : decode cX1_copyFrom 25 = .ok (.bipush 16, 2) := by decide +kernel
theorem dX1_copyFrom_27 : decode cX1_copyFrom 27 = .ok (.invokestatic 21, 3) := by decide +kernel
theorem dX1_copyFrom_30 : decode cX1_copyFrom 30 = .ok (.aload_n 1, 1) := by decide +kernel
theorem dX1_copyFrom_31 : decode cX1_copyFrom 31 = .ok (.getfield 18, 3) := by decide +kernel
theorem dX1_copyFrom_34 : decode cX1_copyFrom 34 = .ok (.iconst 0, 1) := by decide +kernel
theorem dX1_copyFrom_35 : decode cX1_copyFrom 35 = .ok (.aload_n 0, 1) := by decide +kernel
theorem dX1_copyFrom_36 : decode cX1_copyFrom 36 = .ok (.getfield 18, 3) := by decide +kernel
theorem dX1_copyFrom_39 : decode cX1_copyFrom 39 = .ok (.iconst 0, 1) := by decide +kernel
theorem dX1_copyFrom_40 : decode cX1_copyFrom 40 = .ok (.bipush 16, 2) := by decide +kernel
theorem dX1_copyFrom_42 : decode cX1_copyFrom 42 = .ok (.invokestatic 21, 3) := by decide +kernel
theorem dX1_copyFrom_45 : decode cX1_copyFrom 45 = .ok (.aload_n 0, 1) := by decide +kernel
theorem dX1_copyFrom_46 : decode cX1_copyFrom 46 = .ok (.aload_n 1, 1) := by decide +kernel
theorem dX1_copyFrom_47 : decode cX1_copyFrom 47 = .ok (.getfield 27, 3) := by decide +kernel
theorem dX1_copyFrom_50 : decode cX1_copyFrom 50 = .ok (.putfield 27, 3) := by decide +kernel
theorem dX1_copyFrom_53 : decode cX1_copyFrom 53 = .ok (.aload_n 0, 1) := by decide +kernel
theorem dX1_copyFrom_54 : decode cX1_copyFrom 54 = .ok (.aload_n 1, 1) := by decide +kernel
theorem dX1_copyFrom_55 : decode cX1_copyFrom 55 = .ok (.getfield 31, 3) := by decide +kernel
theorem dX1_copyFrom_58 : decode cX1_copyFrom 58 = .ok (.putfield 31, 3) := by decide +kernel
theorem dX1_copyFrom_61 : decode cX1_copyFrom 61 = .ok (.return_, 1) := by decide +kernel
theorem dX1_clear_0 : decode cX1_clear 0 = .ok (.aload_n 0, 1) := by decide +kernel
theorem dX1_clear_1 : decode cX1_clear 1 = .ok (.iconst 0, 1) := by decide +kernel
theorem dX1_clear_2 : decode cX1_clear 2 = .ok (.putfield 27, 3) := by decide +kernel
theorem dX1_clear_5 : decode cX1_clear 5 = .ok (.aload_n 0, 1) := by decide +kernel
theorem dX1_clear_6 : decode cX1_clear 6 = .ok (.iconst 0, 1) := by decide +kernel
theorem dX1_clear_7 : decode cX1_clear 7 = .ok (.putfield 31, 3) := by decide +kernel
theorem dX1_clear_10 : decode cX1_clear 10 = .ok (.return_, 1) := by decide +kernel
theorem dX1_add_0 : decode cX1_add 0 = .ok (.aload_n 0, 1) := by decide +kernel
theorem dX1_add_1 : decode cX1_add 1 = .ok (.getfield 9, 3) := by decide +kernel
theorem dX1_add_4 : decode cX1_add 4 = .ok (.aload_n 0, 1) := by decide +kernel
theorem dX1_add_5 : decode cX1_add 5 = .ok (.getfield 31, 3) := by decide +kernel
theorem dX1_add_8 : decode cX1_add 8 = .ok (.iload_n 1, 1) := by decide +kernel
theorem dX1_add_9 : decode cX1_add 9 = .ok (.iastore, 1) := by decide +kernel
theorem dX1_add_10 : decode cX1_add 10 = .ok (.aload_n 0, 1) := by decide +kernel
theorem dX1_add_11 : decode cX1_add 11 = .ok (.getfield 15, 3) := by decide +kernel
theorem dX1_add_14 : decode cX1_add 14 = .ok (.aload_n 0, 1) := by decide +kernel
theorem dX1_add_15 : decode cX1_add 15 = .ok (.getfield 31, 3) := by decide +kernel
theorem dX1_add_18 : decode cX1_add 18 = .ok (.iload_n 2, 1) := by decide +kernel
theorem dX1_add_19 : decode cX1_add 19 = .ok (.iastore, 1) := by decide +kernel
theorem dX1_add_20 : decode cX1_add 20 = .ok (.aload_n 0, 1) := by decide +kernel
theorem dX1_add_21 : decode cX1_add 21 = .ok (.getfield 18, 3) := by decide +kernel
theorem dX1_add_24 : decode cX1_add 24 = .ok (.aload_n 0, 1) := by decide +kernel
theorem dX1_add_25 : decode cX1_add 25 = .ok (.getfield 31, 3) := by decide +kernel
theorem dX1_add_28 : decode cX1_add 28 = .ok (.iload_n 3, 1) := by decide +kernel
theorem dX1_add_29 : decode cX1_add 29 = .ok (.iastore, 1) := by decide +kernel
theorem dX1_add_30 : decode cX1_add 30 = .ok (.aload_n 0, 1) := by decide +kernel
theorem dX1_add_31 : decode cX1_add 31 = .ok (.aload_n 0, 1) := by decide +kernel
theorem dX1_add_32 : decode cX1_add 32 = .ok (.getfield 31, 3) := by decide +kernel
theorem dX1_add_35 : decode cX1_add 35 = .ok (.iconst 1, 1) := by decide +kernel
theorem dX1_add_36 : decode cX1_add 36 = .ok (.iadd, 1) := by decide +kernel
theorem dX1_add_37 : decode cX1_add 37 = .ok (.bipush 16, 2) := by decide +kernel
theorem dX1_add_39 : decode cX1_add 39 = .ok (.irem, 1) := by decide +kernel
theorem dX1_add_40 : decode cX1_add 40 = .ok (.putfield 31, 3) := by decide +kernel
theorem dX1_add_43 : decode cX1_add 43 = .ok (.aload_n 0, 1) := by decide +kernel
theorem dX1_add_44 : decode cX1_add 44 = .ok (.aload_n 0, 1) := by decide +kernel
theorem dX1_add_45 : decode cX1_add 45 = .ok (.getfield 27, 3) := by decide +kernel
theorem dX1_add_48 : decode cX1_add 48 = .ok (.iconst 1, 1) := by decide +kernel
theorem dX1_add_49 : decode cX1_add 49 = .ok (.iadd, 1) := by decide +kernel
theorem dX1_add_50 : decode cX1_add 50 = .ok (.bipush 16, 2) := by decide +kernel
theorem dX1_add_52 : decode cX1_add 52 = .ok (.invokestatic 34, 3) := by decide +kernel
theorem dX1_add_55 : decode cX1_add 55 = .ok (.putfield 27, 3) := by decide +kernel
theorem dX1_add_58 : decode cX1_add 58 = .ok (.return_, 1) := by decide +kernel
theorem dX2_init_0 : decode cX2_init 0 = .ok (.aload_n 0, 1) := by decide +kernel
theorem dX2_init_1 : decode cX2_init 1 = .ok (.invokespecial 3, 3) := by decide +kernel
theorem dX2_init_4 : decode cX2_init 4 = .ok (.aload_n 0, 1) := by decide +kernel
theorem dX2_init_5 : decode cX2_init 5 = .ok (.bipush 8, 2) := by decide +kernel
theorem dX2_init_7 : decode cX2_init 7 = .ok (.anewarray 9, 3) := by decide +kernel
theorem dX2_init_10 : decode cX2_init 10 = .ok (.putfield 11, 3) := by decide +kernel
theorem dX2_init_13 : decode cX2_init 13 = .ok (.aload_n 0, 1) := by decide +kernel
theorem dX2_init_14 : decode cX2_init 14 = .ok (.bipush 6, 2) := by decide +kernel
theorem dX2_init_16 : decode cX2_init 16 = .ok (.anewarray 17, 3) := by decide +kernel
theorem dX2_init_19 : decode cX2_init 19 = .ok (.putfield 19, 3) := by decide +kernel
theorem dX2_init_22 : decode cX2_init 22 = .ok (.aload_n 0, 1) := by decide +kernel
theorem dX2_init_23 : decode cX2_init 23 = .ok (.bipush 12, 2) := by decide +kernel
theorem dX2_init_25 : decode cX2_init 25 = .ok (.anewarray 23, 3) := by decide +kernel
theorem dX2_init_28 : decode cX2_init 28 = .ok (.putfield 25, 3) := by decide +kernel
theorem dX2_init_31 : decode cX2_init 31 = .ok (.aload_n 0, 1) := by decide +kernel
theorem dX2_init_32 : decode cX2_init 32 = .ok (.new 29, 3) := by decide +kernel
theorem dX2_init_35 : decode cX2_init 35 = .ok (.dup, 1) := by decide +kernel
theorem dX2_init_36 : decode cX2_init 36 = .ok (.invokespecial 31, 3) := by decide +kernel
theorem dX2_init_39 : decode cX2_init 39 = .ok (.putfield 32, 3) := by decide +kernel
theorem dX2_init_42 : decode cX2_init 42 = .ok (.aload_n 0, 1) := by decide +kernel
theorem dX2_init_43 : decode cX2_init 43 = .ok (.new 36, 3) := by decide +kernel
theorem dX2_init_46 : decode cX2_init 46 = .ok (.dup, 1) := by decide +kernel
theorem dX2_init_47 : decode cX2_init 47 = .ok (.invokespecial 38, 3) := by decide +kernel
theorem dX2_init_50 : decode cX2_init 50 = .ok (.putfield 39, 3) := by decide +kernel
theorem dX2_init_53 : decode cX2_init 53 = .ok (.aload_n 0, 1) := by decide +kernel
theorem dX2_init_54 : decode cX2_init 54 = .ok (.iconst (-1), 1) := by decide +kernel
theorem dX2_init_55 : decode cX2_init 55 = .ok (.putfield 43, 3) := by decide +kernel
theorem dX2_init_58 : decode cX2_init 58 = .ok (.iconst 0, 1) := by decide +kernel
theorem dX2_init_59 : decode cX2_init 59 = .ok (.istore_n 1, 1) := by decide +kernel
theorem dX2_init_60 : decode cX2_init 60 = .ok (.iload_n 1, 1) := by decide +kernel
theorem dX2_init_61 : decode cX2_init 61 = .ok (.aload_n 0, 1) := by decide +kernel
theorem dX2_init_62 : decode cX2_init 62 = .ok (.getfield 11, 3) := by decide +kernel
theorem dX2_init_65 : decode cX2_init 65 = .ok (.arraylength, 1) := by decide +kernel
theorem dX2_init_66 : decode cX2_init 66 = .ok (.if_icmp .ge 22, 3) := by decide +kernel
theorem dX2_init_69 : decode cX2_init 69 = .ok (.aload_n 0, 1) := by decide +kernel
theorem dX2_init_70 : decode cX2_init 70 = .ok (.getfield 11, 3) := by decide +kernel
theorem dX2_init_73 : decode cX2_init 73 = .ok (.iload_n 1, 1) := by decide +kernel
theorem dX2_init_74 : decode cX2_init 74 = .ok (.new 9, 3) := by decide +kernel
theorem dX2_init_77 : decode cX2_init 77 = .ok (.dup, 1) := by decide +kernel
theorem dX2_init_78 : decode cX2_init 78 = .ok (.invokespecial 47, 3) := by decide +kernel
theorem dX2_init_81 : decode cX2_init 81 = .ok (.aastore, 1) := by decide +kernel
theorem dX2_init_82 : decode cX2_init 82 = .ok (.iinc 1 1, 3) := by decide +kernel
theorem dX2_init_85 : decode cX2_init 85 = .ok (.goto (-25), 3) := by decide +kernel
theorem dX2_init_88 : decode cX2_init 88 = .ok (.iconst 0, 1) := by decide +kernel
theorem dX2_init_89 : decode cX2_init 89 = .ok (.istore_n 1, 1) := by decide +kernel
theorem dX2_init_90 : decode cX2_init 90 = .ok (.iload_n 1, 1) := by decide +kernel
theorem dX2_init_91 : decode cX2_init 91 = .ok (.aload_n 0, 1) := by decide +kernel
theorem dX2_init_92 : decode cX2_init 92 = .ok (.getfield 19, 3) := by decide +kernel
theorem dX2_init_95 : decode cX2_init 95 = .ok (.arraylength, 1) := by decide +kernel
theorem dX2_init_96 : decode cX2_init 96 = .ok (.if_icmp .ge 22, 3) := by decide +kernel
theorem dX2_init_99 : decode cX2_init 99 = .ok (.aload_n 0, 1) := by decide +kernel
theorem dX2_init_100 : decode cX2_init 100 = .ok (.getfield 19, 3) := by decide +kernel
theorem dX2_init_103 : decode cX2_init 103 = .ok (.iload_n 1, 1) := by decide +kernel
theorem dX2_init_104 : decode cX2_init 104 = .ok (.new 17, 3) := by decide +kernel
theorem dX2_init_107 : decode cX2_init 107 = .ok (.dup, 1) := by decide +kernel
theorem dX2_init_108 : decode cX2_init 108 = .ok (.invokespecial 48, 3) := by decide +kernel
theorem dX2_init_111 : decode cX2_init 111 = .ok (.aastore, 1) := by decide +kernel
theorem dX2_init_112 : decode cX2_init 112 = .ok (.iinc 1 1, 3) := by decide +kernel
theorem dX2_init_115 : decode cX2_init 115 = .ok (.goto (-25), 3) := by decide +kernel
theorem dX2_init_118 : decode cX2_init 118 = .ok (.iconst 0, 1) := by decide +kernel
theorem dX2_init_119 : decode cX2_init 119 = .ok (.istore_n 1, 1) := by decide +kernel
theorem dX2_init_120 : decode cX2_init 120 = .ok (.iload_n 1, 1) := by decide +kernel
theorem dX2_init_121 : decode cX2_init 121 = .ok (.aload_n 0, 1) := by decide +kernel
theorem dX2_init_122 : decode cX2_init 122 = .ok (.getfield 25, 3) := by decide +kernel
theorem dX2_init_125 : decode cX2_init 125 = .ok (.arraylength, 1) := by decide +kernel
theorem dX2_init_126 : decode cX2_init 126 = .ok (.if_icmp .ge 22, 3) := by decide +kernel
theorem dX2_init_129 : decode cX2_init 129 = .ok (.aload_n 0, 1) := by decide +kernel
theorem dX2_init_130 : decode cX2_init 130 = .ok (.getfield 25, 3) := by decide +kernel
theorem dX2_init_133 : decode cX2_init 133 = .ok (.iload_n 1, 1) := by decide +kernel
theorem dX2_init_134 : decode cX2_init 134 = .ok (.new 23, 3) := by decide +kernel
theorem dX2_init_137 : decode cX2_init 137 = .ok (.dup, 1) := by decide +kernel
theorem dX2_init_138 : decode cX2_init 138 = .ok (.invokespecial 49, 3) := by decide +kernel
theorem dX2_init_141 : decode cX2_init 141 = .ok (.aastore, 1) := by decide +kernel
theorem dX2_init_142 : decode cX2_init 142 = .ok (.iinc 1 1, 3) := by decide +kernel
theorem dX2_init_145 : decode cX2_init 145 = .ok (.goto (-25), 3) := by decide +kernel
theorem dX2_init_148 : decode cX2_init 148 = .ok (.return_, 1) := by decide +kernel
theorem dX2_copyFrom_0 : decode cX2_copyFrom 0 = .ok (.aload_n 0, 1) := by decide +kernel
theorem dX2_copyFrom_1 : decode cX2_copyFrom 1 = .ok (.aload_n 1, 1) := by decide +kernel
theorem dX2_copyFrom_2 : decode cX2_copyFrom 2 = .ok (.getfield 50, 3) := by decide +kernel
theorem dX2_copyFrom_5 : decode cX2_copyFrom 5 = .ok (.putfield 50, 3) := by decide +kernel
theorem dX2_copyFrom_8 : decode cX2_copyFrom 8 = .ok (.aload_n 0, 1) := by decide +kernel
theorem dX2_copyFrom_9 : decode cX2_copyFrom 9 = .ok (.aload_n 1, 1) := by decide +kernel
theorem dX2_copyFrom_10 : decode cX2_copyFrom 10 = .ok (.getfield 53, 3) := by decide +kernel
theorem dX2_copyFrom_13 : decode cX2_copyFrom 13 = .ok (.putfield 53, 3) := by decide +kernel
theorem dX2_copyFrom_16 : decode cX2_copyFrom 16 = .ok (.aload_n 0, 1) := by decide +kernel
theorem dX2_copyFrom_17 : decode cX2_copyFrom 17 = .ok (.aload_n 1, 1) := by decide +kernel
theorem dX2_copyFrom_18 : decode cX2_copyFrom 18 = .ok (.getfield 56, 3) := by decide +kernel
theorem dX2_copyFrom_21 : decode cX2_copyFrom 21 = .ok (.putfield 56, 3) := by decide +kernel
theorem dX2_copyFrom_24 : decode cX2_copyFrom 24 = .ok (.aload_n 0, 1) := by decide +kernel
theorem dX2_copyFrom_25 : decode cX2_copyFrom 25 = .ok (.aload_n 1, 1) := by decide +kernel
theorem dX2_copyFrom_26 : decode cX2_copyFrom 26 = .ok (.getfield 43, 3) := by decide +kernel
theorem dX2_copyFrom_29 : decode cX2_copyFrom 29 = .ok (.putfield 43, 3) := by decide +kernel
theorem dX2_copyFrom_32 : decode cX2_copyFrom 32 = .ok (.aload_n 0, 1) := by decide +kernel
theorem dX2_copyFrom_33 : decode cX2_copyFrom 33 = .ok (.aload_n 1, 1) := by decide +kernel
theorem dX2_copyFrom_34 : decode cX2_copyFrom 34 = .ok (.getfield 59, 3) := by decide +kernel
theorem dX2_copyFrom_37 : decode cX2_copyFrom 37 = .ok (.putfield 59, 3) := by decide +kernel
theorem dX2_copyFrom_40 : decode cX2_copyFrom 40 = .ok (.aload_n 0, 1) := by decide +kernel
theorem dX2_copyFrom_41 : decode cX2_copyFrom 41 = .ok (.aload_n 1, 1) := by decide +kernel
theorem dX2_copyFrom_42 : decode cX2_copyFrom 42 = .ok (.getfield 62, 3) := by decide +kernel
theorem dX2_copyFrom_45 : decode cX2_copyFrom 45 = .ok (.putfield 62, 3) := by decide +kernel
theorem dX2_copyFrom_48 : decode cX2_copyFrom 48 = .ok (.aload_n 0, 1) := by decide +kernel
theorem dX2_copyFrom_49 : decode cX2_copyFrom 49 = .ok (.aload_n 1, 1) := by decide +kernel
theorem dX2_copyFrom_50 : decode cX2_copyFrom 50 = .ok (.getfield 65, 3) := by decide +kernel
theorem dX2_copyFrom_53 : decode cX2_copyFrom 53 = .ok (.putfield 65, 3) := by decide +kernel
theorem dX2_copyFrom_56 : decode cX2_copyFrom 56 = .ok (.aload_n 0, 1) := by decide +kernel
theorem dX2_copyFrom_57 : decode cX2_copyFrom 57 = .ok (.aload_n 1, 1) := by decide +kernel
theorem dX2_copyFrom_58 : decode cX2_copyFrom 58 = .ok (.getfield 68, 3) := by decide +kernel
theorem dX2_copyFrom_61 : decode cX2_copyFrom 61 = .ok (.putfield 68, 3) := by decide +kernel
theorem dX2_copyFrom_64 : decode cX2_copyFrom 64 = .ok (.aload_n 0, 1) := by decide +kernel
theorem dX2_copyFrom_65 : decode cX2_copyFrom 65 = .ok (.getfield 32, 3) := by decide +kernel
theorem dX2_copyFrom_68 : decode cX2_copyFrom 68 = .ok (.aload_n 1, 1) := by decide +kernel
theorem dX2_copyFrom_69 : decode cX2_copyFrom 69 = .ok (.getfield 32, 3) := by decide +kernel
theorem dX2_copyFrom_72 : decode cX2_copyFrom 72 = .ok (.invokevirtual 71, 3) := by decide +kernel
theorem dX2_copyFrom_75 : decode cX2_copyFrom 75 = .ok (.aload_n 0, 1) := by decide +kernel
theorem dX2_copyFrom_76 : decode cX2_copyFrom 76 = .ok (.getfield 39, 3) := by decide +kernel
theorem dX2_copyFrom_79 : decode cX2_copyFrom 79 = .ok (.aload_n 1, 1) := by decide +kernel
theorem dX2_copyFrom_80 : decode cX2_copyFrom 80 = .ok (.getfield 39, 3) := by decide +kernel
theorem dX2_copyFrom_83 : decode cX2_copyFrom 83 = .ok (.invokevirtual 75, 3) := by decide +kernel
theorem dX2_copyFrom_86 : decode cX2_copyFrom 86 = .ok (.iconst 0, 1) := by decide +kernel
theorem dX2_copyFrom_87 : decode cX2_copyFrom 87 = .ok (.istore_n 2, 1) := by decide +kernel
theorem dX2_copyFrom_88 : decode cX2_copyFrom 88 = .ok (.iload_n 2, 1) := by decide +kernel
theorem dX2_copyFrom_89 : decode cX2_copyFrom 89 = .ok (.aload_n 0, 1) := by decide +kernel
theorem dX2_copyFrom_90 : decode cX2_copyFrom 90 = .ok (.getfield 50, 3) := by decide +kernel
theorem dX2_copyFrom_93 : decode cX2_copyFrom 93 = .ok (.if_icmp .ge 24, 3) := by decide +kernel
theorem dX2_copyFrom_96 : decode cX2_copyFrom 96 = .ok (.aload_n 0, 1) := by decide +kernel
theorem dX2_copyFrom_97 : decode cX2_copyFrom 97 = .ok (.getfield 11, 3) := by decide +kernel
theorem dX2_copyFrom_100 : decode cX2_copyFrom 100 = .ok (.iload_n 2, 1) := by decide +kernel
theorem dX2_copyFrom_101 : decode cX2_copyFrom 101 = .ok (.aaload, 1) := by decide +kernel
theorem dX2_copyFrom_102 : decode cX2_copyFrom 102 = .ok (.aload_n 1, 1) := by decide +kernel
theorem dX2_copyFrom_103 : decode cX2_copyFrom 103 = .ok (.getfield 11, 3) := by decide +kernel
theorem dX2_copyFrom_106 : decode cX2_copyFrom 106 = .ok (.iload_n 2, 1) := by decide +kernel
theorem dX2_copyFrom_107 : decode cX2_copyFrom 107 = .ok (.aaload, 1) := by decide +kernel
theorem dX2_copyFrom_108 : decode cX2_copyFrom 108 = .ok (.invokevirtual 78, 3) := by decide +kernel
theorem dX2_copyFrom_111 : decode cX2_copyFrom 111 = .ok (.iinc 2 1, 3) := by decide +kernel
theorem dX2_copyFrom_114 : decode cX2_copyFrom 114 = .ok (.goto (-26), 3) := by decide +kernel
theorem dX2_copyFrom_117 : decode cX2_copyFrom 117 = .ok (.iconst 0, 1) := by decide +kernel
theorem dX2_copyFrom_118 : decode cX2_copyFrom 118 = .ok (.istore_n 2, 1) := by decide +kernel
theorem dX2_copyFrom_119 : decode cX2_copyFrom 119 = .ok (.iload_n 2, 1) := by decide +kernel
theorem dX2_copyFrom_120 : decode cX2_copyFrom 120 = .ok (.aload_n 0, 1) := by decide +kernel
theorem dX2_copyFrom_121 : decode cX2_copyFrom 121 = .ok (.getfield 53, 3) := by decide +kernel
theorem dX2_copyFrom_124 : decode cX2_copyFrom 124 = .ok (.if_icmp .ge 24, 3) := by decide +kernel
theorem dX2_copyFrom_127 : decode cX2_copyFrom 127 = .ok (.aload_n 0, 1) := by decide +kernel
theorem dX2_copyFrom_128 : decode cX2_copyFrom 128 = .ok (.getfield 19, 3) := by decide +kernel
theorem dX2_copyFrom_131 : decode cX2_copyFrom 131 = .ok (.iload_n 2, 1) := by decide +kernel
theorem dX2_copyFrom_132 : decode cX2_copyFrom 132 = .ok (.aaload, 1) := by decide +kernel
theorem dX2_copyFrom_133 : decode cX2_copyFrom 133 = .ok (.aload_n 1, 1) := by decide +kernel
theorem dX2_copyFrom_134 : decode cX2_copyFrom 134 = .ok (.getfield 19, 3) := by decide +kernel
theorem dX2_copyFrom_137 : decode cX2_copyFrom 137 = .ok (.iload_n 2, 1) := by decide +kernel
theorem dX2_copyFrom_138 : decode cX2_copyFrom 138 = .ok (.aaload, 1) := by decide +kernel
theorem dX2_copyFrom_139 : decode cX2_copyFrom 139 = .ok (.invokevirtual 81, 3) := by decide +kernel
theorem dX2_copyFrom_142 : decode cX2_copyFrom 142 = .ok (.iinc 2 1, 3) := by decide +kernel
theorem dX2_copyFrom_145 : decode cX2_copyFrom 145 = .ok (.goto (-26), 3) := by decide +kernel
theorem dX2_copyFrom_148 : decode cX2_copyFrom 148 = .ok (.iconst 0, 1) := by decide +kernel
theorem dX2_copyFrom_149 : decode cX2_copyFrom 149 = .ok (.istore_n 2, 1) := by decide +kernel
theorem dX2_copyFrom_150 : decode cX2_copyFrom 150 = .ok (.iload_n 2, 1) := by decide +kernel
theorem dX2_copyFrom_151 : decode cX2_copyFrom 151 = .ok (.aload_n 0, 1) := by decide +kernel
theorem dX2_copyFrom_152 : decode cX2_copyFrom 152 = .ok (.getfield 56, 3) := by decide +kernel
theorem dX2_copyFrom_155 : decode cX2_copyFrom 155 = .ok (.if_icmp .ge 24, 3) := by decide +kernel
theorem dX2_copyFrom_158 : decode cX2_copyFrom 158 = .ok (.aload_n 0, 1) := by decide +kernel
theorem dX2_copyFrom_159 : decode cX2_copyFrom 159 = .ok (.getfield 25, 3) := by decide +kernel
theorem dX2_copyFrom_162 : decode cX2_copyFrom 162 = .ok (.iload_n 2, 1) := by decide +kernel
theorem dX2_copyFrom_163 : decode cX2_copyFrom 163 = .ok (.aaload, 1) := by decide +kernel
theorem dX2_copyFrom_164 : decode cX2_copyFrom 164 = .ok (.aload_n 1, 1) := by decide +kernel
theorem dX2_copyFrom_165 : decode cX2_copyFrom 165 = .ok (.getfield 25, 3) := by decide +kernel
theorem dX2_copyFrom_168 : decode cX2_copyFrom 168 = .ok (.iload_n 2, 1) := by decide +kernel
theorem dX2_copyFrom_169 : decode cX2_copyFrom 169 = .ok (.aaload, 1) := by decide +kernel
theorem dX2_copyFrom_170 : decode cX2_copyFrom 170 = .ok (.invokevirtual 84, 3) := by decide +kernel
theorem dX2_copyFrom_173 : decode cX2_copyFrom 173 = .ok (.iinc 2 1, 3) := by decide +kernel
theorem dX2_copyFrom_176 : decode cX2_copyFrom 176 = .ok (.goto (-26), 3) := by decide +kernel
theorem dX2_copyFrom_179 : decode cX2_copyFrom 179 = .ok (.return_, 1) := by decide +kernel
theorem dX2_clear_0 : decode cX2_clear 0 = .ok (.aload_n 0, 1) := by decide +kernel
theorem dX2_clear_1 : decode cX2_clear 1 = .ok (.iconst 0, 1) := by decide +kernel
theorem dX2_clear_2 : decode cX2_clear 2 = .ok (.putfield 50, 3) := by decide +kernel
theorem dX2_clear_5 : decode cX2_clear 5 = .ok (.aload_n 0, 1) := by decide +kernel
theorem dX2_clear_6 : decode cX2_clear 6 = .ok (.iconst 0, 1) := by decide +kernel
theorem dX2_clear_7 : decode cX2_clear 7 = .ok (.putfield 53, 3) := by decide +kernel
theorem dX2_clear_10 : decode cX2_clear 10 = .ok (.aload_n 0, 1) := by decide +kernel
theorem dX2_clear_11 : decode cX2_clear 11 = .ok (.iconst 0, 1) := by decide +kernel
theorem dX2_clear_12 : decode cX2_clear 12 = .ok (.putfield 56, 3) := by decide +kernel
theorem dX2_clear_15 : decode cX2_clear 15 = .ok (.aload_n 0, 1) := by decide +kernel
theorem dX2_clear_16 : decode cX2_clear 16 = .ok (.iconst (-1), 1) := by decide +kernel
theorem dX2_clear_17 : decode cX2_clear 17 = .ok (.putfield 43, 3) := by decide +kernel
theorem dX2_clear_20 : decode cX2_clear 20 = .ok (.aload_n 0, 1) := by decide +kernel
theorem dX2_clear_21 : decode cX2_clear 21 = .ok (.iconst 0, 1) := by decide +kernel
theorem dX2_clear_22 : decode cX2_clear 22 = .ok (.putfield 59, 3) := by decide +kernel
theorem dX2_clear_25 : decode cX2_clear 25 = .ok (.aload_n 0, 1) := by decide +kernel
theorem dX2_clear_26 : decode cX2_clear 26 = .ok (.iconst 0, 1) := by decide +kernel
theorem dX2_clear_27 : decode cX2_clear 27 = .ok (.putfield 62, 3) := by decide +kernel
theorem dX2_clear_30 : decode cX2_clear 30 = .ok (.aload_n 0, 1) := by decide +kernel
theorem dX2_clear_31 : decode cX2_clear 31 = .ok (.iconst 3, 1) := by decide +kernel
theorem dX2_clear_32 : decode cX2_clear 32 = .ok (.putfield 65, 3) := by decide +kernel
theorem dX2_clear_35 : decode cX2_clear 35 = .ok (.aload_n 0, 1) := by decide +kernel
theorem dX2_clear_36 : decode cX2_clear 36 = .ok (.bipush 6, 2) := by decide +kernel
theorem dX2_clear_38 : decode cX2_clear 38 = .ok (.putfield 68, 3) := by decide +kernel
theorem dX2_clear_41 : decode cX2_clear 41 = .ok (.aload_n 0, 1) := by decide +kernel
theorem dX2_clear_42 : decode cX2_clear 42 = .ok (.getfield 32, 3) := by decide +kernel
theorem dX2_clear_45 : decode cX2_clear 45 = .ok (.invokevirtual 87, 3) := by decide +kernel
theorem dX2_clear_48 : decode cX2_clear 48 = .ok (.aload_n 0, 1) := by decide +kernel
theorem dX2_clear_49 : decode cX2_clear 49 = .ok (.getfield 39, 3) := by decide +kernel
theorem dX2_clear_52 : decode cX2_clear 52 = .ok (.invokevirtual 90, 3) := by decide +kernel
theorem dX2_clear_55 : decode cX2_clear 55 = .ok (.return_, 1) := by decide +kernel
theorem dX2_begin_0 : decode cX2_begin 0 = .ok (.aload_n 0, 1) := by decide +kernel
theorem dX2_begin_1 : decode cX2_begin 1 = .ok (.getfield 39, 3) := by decide +kernel
theorem dX2_begin_4 : decode cX2_begin 4 = .ok (.aload_n 0, 1) := by decide +kernel
theorem dX2_begin_5 : decode cX2_begin 5 = .ok (.invokevirtual 91, 3) := by decide +kernel
theorem dX2_begin_8 : decode cX2_begin 8 = .ok (.putfield 95, 3) := by decide +kernel
theorem dX2_begin_11 : decode cX2_begin 11 = .ok (.aload_n 0, 1) := by decide +kernel
theorem dX2_begin_12 : decode cX2_begin 12 = .ok (.getfield 39, 3) := by decide +kernel
theorem dX2_begin_15 : decode cX2_begin 15 = .ok (.aload_n 0, 1) := by decide +kernel
theorem dX2_begin_16 : decode cX2_begin 16 = .ok (.invokevirtual 98, 3) := by decide +kernel
theorem dX2_begin_19 : decode cX2_begin 19 = .ok (.putfield 101, 3) := by decide +kernel
theorem dX2_begin_22 : decode cX2_begin 22 = .ok (.aload_n 0, 1) := by decide +kernel
theorem dX2_begin_23 : decode cX2_begin 23 = .ok (.aload_n 0, 1) := by decide +kernel
theorem dX2_begin_24 : decode cX2_begin 24 = .ok (.getfield 25, 3) := by decide +kernel
theorem dX2_begin_27 : decode cX2_begin 27 = .ok (.iconst 0, 1) := by decide +kernel
theorem dX2_begin_28 : decode cX2_begin 28 = .ok (.aaload, 1) := by decide +kernel
theorem dX2_begin_29 : decode cX2_begin 29 = .ok (.getfield 104, 3) := by decide +kernel
theorem dX2_begin_32 : decode cX2_begin 32 = .ok (.putfield 62, 3) := by decide +kernel
theorem dX2_begin_35 : decode cX2_begin 35 = .ok (.aload_n 0, 1) := by decide +kernel
theorem dX2_begin_36 : decode cX2_begin 36 = .ok (.aload_n 0, 1) := by decide +kernel
theorem dX2_begin_37 : decode cX2_begin 37 = .ok (.getfield 25, 3) := by decide +kernel
theorem dX2_begin_40 : decode cX2_begin 40 = .ok (.iconst 0, 1) := by decide +kernel
theorem dX2_begin_41 : decode cX2_begin 41 = .ok (.aaload, 1) := by decide +kernel
theorem dX2_begin_42 : decode cX2_begin 42 = .ok (.getfield 107, 3) := by decide +kernel
theorem dX2_begin_45 : decode cX2_begin 45 = .ok (.invokevirtual 110, 3) := by decide +kernel
theorem dX2_begin_48 : decode cX2_begin 48 = .ok (.return_, 1) := by decide +kernel
theorem dX2_allows_0 : decode cX2_allows 0 = .ok (.iload_n 1, 1) := by decide +kernel
theorem dX2_allows_1 : decode cX2_allows 1 = .ok (.tableswitch 144 0 5 #[39, 57, 75, 85, 107, 130], 39) := by decide +kernel
theorem dX2_allows_40 : decode cX2_allows 40 = .ok (.aload_n 0, 1) := by decide +kernel
theorem dX2_allows_41 : decode cX2_allows 41 = .ok (.getfield 68, 3) := by decide +kernel
theorem dX2_allows_44 : decode cX2_allows 44 = .ok (.iload_n 3, 1) := by decide +kernel
theorem dX2_allows_45 : decode cX2_allows 45 = .ok (.iadd, 1) := by decide +kernel
theorem dX2_allows_46 : decode cX2_allows 46 = .ok (.sipush 9999, 3) := by decide +kernel
theorem dX2_allows_49 : decode cX2_allows 49 = .ok (.if_icmp .gt 7, 3) := by decide +kernel
theorem dX2_allows_52 : decode cX2_allows 52 = .ok (.iconst 1, 1) := by decide +kernel
theorem dX2_allows_53 : decode cX2_allows 53 = .ok (.goto 4, 3) := by decide +kernel
theorem dX2_allows_56 : decode cX2_allows 56 = .ok (.iconst 0, 1) := by decide +kernel
theorem dX2_allows_57 : decode cX2_allows 57 = .ok (.ireturn, 1) := by decide +kernel
theorem dX2_allows_58 : decode cX2_allows 58 = .ok (.aload_n 0, 1) := by decide +kernel
theorem dX2_allows_59 : decode cX2_allows 59 = .ok (.getfield 19, 3) := by decide +kernel
theorem dX2_allows_62 : decode cX2_allows 62 = .ok (.iload_n 2, 1) := by decide +kernel
theorem dX2_allows_63 : decode cX2_allows 63 = .ok (.aaload, 1) := by decide +kernel
theorem dX2_allows_64 : decode cX2_allows 64 = .ok (.getfield 114, 3) := by decide +kernel
theorem dX2_allows_67 : decode cX2_allows 67 = .ok (.ifCond .ne 7, 3) := by decide +kernel
theorem dX2_allows_70 : decode cX2_allows 70 = .ok (.iconst 1, 1) := by decide +kernel
theorem dX2_allows_71 : decode cX2_allows 71 = .ok (.goto 4, 3) := by decide +kernel
theorem dX2_allows_74 : decode cX2_allows 74 = .ok (.iconst 0, 1) := by decide +kernel
theorem dX2_allows_75 : decode cX2_allows 75 = .ok (.ireturn, 1) := by decide +kernel
theorem dX2_allows_76 : decode cX2_allows 76 = .ok (.aload_n 0, 1) := by decide +kernel
theorem dX2_allows_77 : decode cX2_allows 77 = .ok (.getfield 19, 3) := by decide +kernel
theorem dX2_allows_80 : decode cX2_allows 80 = .ok (.iload_n 2, 1) := by decide +kernel
theorem dX2_allows_81 : decode cX2_allows 81 = .ok (.aaload, 1) := by decide +kernel
theorem dX2_allows_82 : decode cX2_allows 82 = .ok (.getfield 114, 3) := by decide +kernel
theorem dX2_allows_85 : decode cX2_allows 85 = .ok (.ireturn, 1) := by decide +kernel
theorem dX2_allows_86 : decode cX2_allows 86 = .ok (.aload_n 0, 1) := by decide +kernel
theorem dX2_allows_87 : decode cX2_allows 87 = .ok (.getfield 19, 3) := by decide +kernel
theorem dX2_allows_90 : decode cX2_allows 90 = .ok (.iload_n 2, 1) := by decide +kernel
theorem dX2_allows_91 : decode cX2_allows 91 = .ok (.aaload, 1) := by decide +kernel
theorem dX2_allows_92 : decode cX2_allows 92 = .ok (.getfield 118, 3) := by decide +kernel
theorem dX2_allows_95 : decode cX2_allows 95 = .ok (.iload_n 3, 1) := by decide +kernel
theorem dX2_allows_96 : decode cX2_allows 96 = .ok (.iadd, 1) := by decide +kernel
theorem dX2_allows_97 : decode cX2_allows 97 = .ok (.bipush 99, 2) := by decide +kernel
theorem dX2_allows_99 : decode cX2_allows 99 = .ok (.if_icmp .gt 7, 3) := by decide +kernel
theorem dX2_allows_102 : decode cX2_allows 102 = .ok (.iconst 1, 1) := by decide +kernel
theorem dX2_allows_103 : decode cX2_allows 103 = .ok (.goto 4, 3) := by decide +kernel
theorem dX2_allows_106 : decode cX2_allows 106 = .ok (.iconst 0, 1) := by decide +kernel
theorem dX2_allows_107 : decode cX2_allows 107 = .ok (.ireturn, 1) := by decide +kernel
theorem dX2_allows_108 : decode cX2_allows 108 = .ok (.aload_n 0, 1) := by decide +kernel
theorem dX2_allows_109 : decode cX2_allows 109 = .ok (.getfield 19, 3) := by decide +kernel
theorem dX2_allows_112 : decode cX2_allows 112 = .ok (.iload_n 2, 1) := by decide +kernel
theorem dX2_allows_113 : decode cX2_allows 113 = .ok (.aaload, 1) := by decide +kernel
theorem dX2_allows_114 : decode cX2_allows 114 = .ok (.getfield 121, 3) := by decide +kernel
theorem dX2_allows_117 : decode cX2_allows 117 = .ok (.iload_n 3, 1) := by decide +kernel
theorem dX2_allows_118 : decode cX2_allows 118 = .ok (.iadd, 1) := by decide +kernel
theorem dX2_allows_119 : decode cX2_allows 119 = .ok (.sipush 9999, 3) := by decide +kernel
theorem dX2_allows_122 : decode cX2_allows 122 = .ok (.if_icmp .gt 7, 3) := by decide +kernel
theorem dX2_allows_125 : decode cX2_allows 125 = .ok (.iconst 1, 1) := by decide +kernel
theorem dX2_allows_126 : decode cX2_allows 126 = .ok (.goto 4, 3) := by decide +kernel
theorem dX2_allows_129 : decode cX2_allows 129 = .ok (.iconst 0, 1) := by decide +kernel
theorem dX2_allows_130 : decode cX2_allows 130 = .ok (.ireturn, 1) := by decide +kernel
theorem dX2_allows_131 : decode cX2_allows 131 = .ok (.aload_n 0, 1) := by decide +kernel
theorem dX2_allows_132 : decode cX2_allows 132 = .ok (.getfield 43, 3) := by decide +kernel
theorem dX2_allows_135 : decode cX2_allows 135 = .ok (.iconst (-1), 1) := by decide +kernel
theorem dX2_allows_136 : decode cX2_allows 136 = .ok (.if_icmp .eq 7, 3) := by decide +kernel
theorem dX2_allows_139 : decode cX2_allows 139 = .ok (.iconst 1, 1) := by decide +kernel
theorem dX2_allows_140 : decode cX2_allows 140 = .ok (.goto 4, 3) := by decide +kernel
theorem dX2_allows_143 : decode cX2_allows 143 = .ok (.iconst 0, 1) := by decide +kernel
theorem dX2_allows_144 : decode cX2_allows 144 = .ok (.ireturn, 1) := by decide +kernel
theorem dX2_allows_145 : decode cX2_allows 145 = .ok (.iconst 1, 1) := by decide +kernel
theorem dX2_allows_146 : decode cX2_allows 146 = .ok (.ireturn, 1) := by decide +kernel
theorem dX2_apply_0 : decode cX2_apply 0 = .ok (.iload_n 1, 1) := by decide +kernel
theorem dX2_apply_1 : decode cX2_apply 1 = .ok (.tableswitch 165 0 5 #[39, 45, 60, 75, 113, 151], 39) := by decide +kernel
theorem dX2_apply_40 : decode cX2_apply 40 = .ok (.aload_n 0, 1) := by decide +kernel
theorem dX2_apply_41 : decode cX2_apply 41 = .ok (.iload_n 3, 1) := by decide +kernel
theorem dX2_apply_42 : decode cX2_apply 42 = .ok (.invokevirtual 124, 3) := by decide +kernel
theorem dX2_apply_45 : decode cX2_apply 45 = .ok (.ireturn, 1) := by decide +kernel
theorem dX2_apply_46 : decode cX2_apply 46 = .ok (.aload_n 0, 1) := by decide +kernel
theorem dX2_apply_47 : decode cX2_apply 47 = .ok (.getfield 19, 3) := by decide +kernel
theorem dX2_apply_50 : decode cX2_apply 50 = .ok (.iload_n 2, 1) := by decide +kernel
theorem dX2_apply_51 : decode cX2_apply 51 = .ok (.aaload, 1) := by decide +kernel
theorem dX2_apply_52 : decode cX2_apply 52 = .ok (.iconst 1, 1) := by decide +kernel
theorem dX2_apply_53 : decode cX2_apply 53 = .ok (.putfield 114, 3) := by decide +kernel
theorem dX2_apply_56 : decode cX2_apply 56 = .ok (.aload_n 0, 1) := by decide +kernel
theorem dX2_apply_57 : decode cX2_apply 57 = .ok (.invokevirtual 128, 3) := by decide +kernel
theorem dX2_apply_60 : decode cX2_apply 60 = .ok (.ireturn, 1) := by decide +kernel
theorem dX2_apply_61 : decode cX2_apply 61 = .ok (.aload_n 0, 1) := by decide +kernel
theorem dX2_apply_62 : decode cX2_apply 62 = .ok (.getfield 19, 3) := by decide +kernel
theorem dX2_apply_65 : decode cX2_apply 65 = .ok (.iload_n 2, 1) := by decide +kernel
theorem dX2_apply_66 : decode cX2_apply 66 = .ok (.aaload, 1) := by decide +kernel
theorem dX2_apply_67 : decode cX2_apply 67 = .ok (.iconst 0, 1) := by decide +kernel
theorem dX2_apply_68 : decode cX2_apply 68 = .ok (.putfield 114, 3) := by decide +kernel
theorem dX2_apply_71 : decode cX2_apply 71 = .ok (.aload_n 0, 1) := by decide +kernel
theorem dX2_apply_72 : decode cX2_apply 72 = .ok (.invokevirtual 128, 3) := by decide +kernel
theorem dX2_apply_75 : decode cX2_apply 75 = .ok (.ireturn, 1) := by decide +kernel
theorem dX2_apply_76 : decode cX2_apply 76 = .ok (.aload_n 0, 1) := by decide +kernel
theorem dX2_apply_77 : decode cX2_apply 77 = .ok (.getfield 19, 3) := by decide +kernel
theorem dX2_apply_80 : decode cX2_apply 80 = .ok (.iload_n 2, 1) := by decide +kernel
theorem dX2_apply_81 : decode cX2_apply 81 = .ok (.aaload, 1) := by decide +kernel
theorem dX2_apply_82 : decode cX2_apply 82 = .ok (.dup, 1) := by decide +kernel
theorem dX2_apply_83 : decode cX2_apply 83 = .ok (.getfield 118, 3) := by decide +kernel
theorem dX2_apply_86 : decode cX2_apply 86 = .ok (.iload_n 3, 1) := by decide +kernel
theorem dX2_apply_87 : decode cX2_apply 87 = .ok (.iadd, 1) := by decide +kernel
theorem dX2_apply_88 : decode cX2_apply 88 = .ok (.putfield 118, 3) := by decide +kernel
theorem dX2_apply_91 : decode cX2_apply 91 = .ok (.aload_n 0, 1) := by decide +kernel
theorem dX2_apply_92 : decode cX2_apply 92 = .ok (.getfield 39, 3) := by decide +kernel
theorem dX2_apply_95 : decode cX2_apply 95 = .ok (.dup, 1) := by decide +kernel
theorem dX2_apply_96 : decode cX2_apply 96 = .ok (.getfield 95, 3) := by decide +kernel
theorem dX2_apply_99 : decode cX2_apply 99 = .ok (.iload_n 3, 1) := by decide +kernel
theorem dX2_apply_100 : decode cX2_apply 100 = .ok (.iadd, 1) := by decide +kernel
theorem dX2_apply_101 : decode cX2_apply 101 = .ok (.putfield 95, 3) := by decide +kernel
theorem dX2_apply_104 : decode cX2_apply 104 = .ok (.aload_n 0, 1) := by decide +kernel
theorem dX2_apply_105 : decode cX2_apply 105 = .ok (.getfield 19, 3) := by decide +kernel
theorem dX2_apply_108 : decode cX2_apply 108 = .ok (.iload_n 2, 1) := by decide +kernel
theorem dX2_apply_109 : decode cX2_apply 109 = .ok (.aaload, 1) := by decide +kernel
theorem dX2_apply_110 : decode cX2_apply 110 = .ok (.getfield 118, 3) := by decide +kernel
theorem dX2_apply_113 : decode cX2_apply 113 = .ok (.ireturn, 1) := by decide +kernel
theorem dX2_apply_114 : decode cX2_apply 114 = .ok (.aload_n 0, 1) := by decide +kernel
theorem dX2_apply_115 : decode cX2_apply 115 = .ok (.getfield 19, 3) := by decide +kernel
theorem dX2_apply_118 : decode cX2_apply 118 = .ok (.iload_n 2, 1) := by decide +kernel
theorem dX2_apply_119 : decode cX2_apply 119 = .ok (.aaload, 1) := by decide +kernel
theorem dX2_apply_120 : decode cX2_apply 120 = .ok (.dup, 1) := by decide +kernel
theorem dX2_apply_121 : decode cX2_apply 121 = .ok (.getfield 121, 3) := by decide +kernel
theorem dX2_apply_124 : decode cX2_apply 124 = .ok (.iload_n 3, 1) := by decide +kernel
theorem dX2_apply_125 : decode cX2_apply 125 = .ok (.iadd, 1) := by decide +kernel
theorem dX2_apply_126 : decode cX2_apply 126 = .ok (.putfield 121, 3) := by decide +kernel
theorem dX2_apply_129 : decode cX2_apply 129 = .ok (.aload_n 0, 1) := by decide +kernel
theorem dX2_apply_130 : decode cX2_apply 130 = .ok (.getfield 39, 3) := by decide +kernel
theorem dX2_apply_133 : decode cX2_apply 133 = .ok (.dup, 1) := by decide +kernel
theorem dX2_apply_134 : decode cX2_apply 134 = .ok (.getfield 101, 3) := by decide +kernel
theorem dX2_apply_137 : decode cX2_apply 137 = .ok (.iload_n 3, 1) := by decide +kernel
theorem dX2_apply_138 : decode cX2_apply 138 = .ok (.iadd, 1) := by decide +kernel
theorem dX2_apply_139 : decode cX2_apply 139 = .ok (.putfield 101, 3) := by decide +kernel
theorem dX2_apply_142 : decode cX2_apply 142 = .ok (.aload_n 0, 1) := by decide +kernel
theorem dX2_apply_143 : decode cX2_apply 143 = .ok (.getfield 19, 3) := by decide +kernel
theorem dX2_apply_146 : decode cX2_apply 146 = .ok (.iload_n 2, 1) := by decide +kernel
theorem dX2_apply_147 : decode cX2_apply 147 = .ok (.aaload, 1) := by decide +kernel
theorem dX2_apply_148 : decode cX2_apply 148 = .ok (.getfield 121, 3) := by decide +kernel
theorem dX2_apply_151 : decode cX2_apply 151 = .ok (.ireturn, 1) := by decide +kernel
theorem dX2_apply_152 : decode cX2_apply 152 = .ok (.aload_n 0, 1) := by decide +kernel
theorem dX2_apply_153 : decode cX2_apply 153 = .ok (.getfield 43, 3) := by decide +kernel
theorem dX2_apply_156 : decode cX2_apply 156 = .ok (.istore 4, 2) := by decide +kernel
theorem dX2_apply_158 : decode cX2_apply 158 = .ok (.aload_n 0, 1) := by decide +kernel
theorem dX2_apply_159 : decode cX2_apply 159 = .ok (.iconst (-1), 1) := by decide +kernel
theorem dX2_apply_160 : decode cX2_apply 160 = .ok (.putfield 43, 3) := by decide +kernel
theorem dX2_apply_163 : decode cX2_apply 163 = .ok (.iload 4, 2) := by decide +kernel
theorem dX2_apply_165 : decode cX2_apply 165 = .ok (.ireturn, 1) := by decide +kernel
theorem dX2_apply_166 : decode cX2_apply 166 = .ok (.aload_n 0, 1) := by decide +kernel
theorem dX2_apply_167 : decode cX2_apply 167 = .ok (.getfield 65, 3) := by decide +kernel
theorem dX2_apply_170 : decode cX2_apply 170 = .ok (.istore 5, 2) := by decide +kernel
theorem dX2_apply_172 : decode cX2_apply 172 = .ok (.aload_n 0, 1) := by decide +kernel
theorem dX2_apply_173 : decode cX2_apply 173 = .ok (.iload_n 3, 1) := by decide +kernel
theorem dX2_apply_174 : decode cX2_apply 174 = .ok (.putfield 65, 3) := by decide +kernel
theorem dX2_apply_177 : decode cX2_apply 177 = .ok (.iload 5, 2) := by decide +kernel
theorem dX2_apply_179 : decode cX2_apply 179 = .ok (.ireturn, 1) := by decide +kernel
theorem dX2_passHours_0 : decode cX2_passHours 0 = .ok (.aload_n 0, 1) := by decide +kernel
theorem dX2_passHours_1 : decode cX2_passHours 1 = .ok (.getfield 39, 3) := by decide +kernel
theorem dX2_passHours_4 : decode cX2_passHours 4 = .ok (.getfield 131, 3) := by decide +kernel
theorem dX2_passHours_7 : decode cX2_passHours 7 = .ok (.istore_n 2, 1) := by decide +kernel
theorem dX2_passHours_8 : decode cX2_passHours 8 = .ok (.iconst 0, 1) := by decide +kernel
theorem dX2_passHours_9 : decode cX2_passHours 9 = .ok (.istore_n 3, 1) := by decide +kernel
theorem dX2_passHours_10 : decode cX2_passHours 10 = .ok (.iload_n 3, 1) := by decide +kernel
theorem dX2_passHours_11 : decode cX2_passHours 11 = .ok (.iload_n 1, 1) := by decide +kernel
theorem dX2_passHours_12 : decode cX2_passHours 12 = .ok (.if_icmp .ge 13, 3) := by decide +kernel
theorem dX2_passHours_15 : decode cX2_passHours 15 = .ok (.aload_n 0, 1) := by decide +kernel
theorem dX2_passHours_16 : decode cX2_passHours 16 = .ok (.invokevirtual 134, 3) := by decide +kernel
theorem dX2_passHours_19 : decode cX2_passHours 19 = .ok (.iinc 3 1, 3) := by decide +kernel
theorem dX2_passHours_22 : decode cX2_passHours 22 = .ok (.goto (-12), 3) := by decide +kernel
theorem dX2_passHours_25 : decode cX2_passHours 25 = .ok (.aload_n 0, 1) := by decide +kernel
theorem dX2_passHours_26 : decode cX2_passHours 26 = .ok (.getfield 39, 3) := by decide +kernel
theorem dX2_passHours_29 : decode cX2_passHours 29 = .ok (.getfield 131, 3) := by decide +kernel
theorem dX2_passHours_32 : decode cX2_passHours 32 = .ok (.iload_n 2, 1) := by decide +kernel
theorem dX2_passHours_33 : decode cX2_passHours 33 = .ok (.isub, 1) := by decide +kernel
theorem dX2_passHours_34 : decode cX2_passHours 34 = .ok (.ireturn, 1) := by decide +kernel
theorem dX2_passHour_0 : decode cX2_passHour 0 = .ok (.aload_n 0, 1) := by decide +kernel
theorem dX2_passHour_1 : decode cX2_passHour 1 = .ok (.dup, 1) := by decide +kernel
theorem dX2_passHour_2 : decode cX2_passHour 2 = .ok (.getfield 68, 3) := by decide +kernel
theorem dX2_passHour_5 : decode cX2_passHour 5 = .ok (.iconst 1, 1) := by decide +kernel
theorem dX2_passHour_6 : decode cX2_passHour 6 = .ok (.iadd, 1) := by decide +kernel
theorem dX2_passHour_7 : decode cX2_passHour 7 = .ok (.putfield 68, 3) := by decide +kernel
theorem dX2_passHour_10 : decode cX2_passHour 10 = .ok (.iconst 0, 1) := by decide +kernel
theorem dX2_passHour_11 : decode cX2_passHour 11 = .ok (.istore_n 1, 1) := by decide +kernel
theorem dX2_passHour_12 : decode cX2_passHour 12 = .ok (.iload_n 1, 1) := by decide +kernel
theorem dX2_passHour_13 : decode cX2_passHour 13 = .ok (.aload_n 0, 1) := by decide +kernel
theorem dX2_passHour_14 : decode cX2_passHour 14 = .ok (.getfield 53, 3) := by decide +kernel
theorem dX2_passHour_17 : decode cX2_passHour 17 = .ok (.if_icmp .ge 14, 3) := by decide +kernel
theorem dX2_passHour_20 : decode cX2_passHour 20 = .ok (.aload_n 0, 1) := by decide +kernel
theorem dX2_passHour_21 : decode cX2_passHour 21 = .ok (.iload_n 1, 1) := by decide +kernel
theorem dX2_passHour_22 : decode cX2_passHour 22 = .ok (.invokevirtual 137, 3) := by decide +kernel
theorem dX2_passHour_25 : decode cX2_passHour 25 = .ok (.iinc 1 1, 3) := by decide +kernel
theorem dX2_passHour_28 : decode cX2_passHour 28 = .ok (.goto (-16), 3) := by decide +kernel
theorem dX2_passHour_31 : decode cX2_passHour 31 = .ok (.aload_n 0, 1) := by decide +kernel
theorem dX2_passHour_32 : decode cX2_passHour 32 = .ok (.getfield 68, 3) := by decide +kernel
theorem dX2_passHour_35 : decode cX2_passHour 35 = .ok (.bipush 24, 2) := by decide +kernel
theorem dX2_passHour_37 : decode cX2_passHour 37 = .ok (.irem, 1) := by decide +kernel
theorem dX2_passHour_38 : decode cX2_passHour 38 = .ok (.ifCond .ne 7, 3) := by decide +kernel
theorem dX2_passHour_41 : decode cX2_passHour 41 = .ok (.aload_n 0, 1) := by decide +kernel
theorem dX2_passHour_42 : decode cX2_passHour 42 = .ok (.invokevirtual 140, 3) := by decide +kernel
theorem dX2_passHour_45 : decode cX2_passHour 45 = .ok (.aload_n 0, 1) := by decide +kernel
theorem dX2_passHour_46 : decode cX2_passHour 46 = .ok (.invokevirtual 143, 3) := by decide +kernel
theorem dX2_passHour_49 : decode cX2_passHour 49 = .ok (.istore_n 1, 1) := by decide +kernel
theorem dX2_passHour_50 : decode cX2_passHour 50 = .ok (.aload_n 0, 1) := by decide +kernel
theorem dX2_passHour_51 : decode cX2_passHour 51 = .ok (.iload_n 1, 1) := by decide +kernel
theorem dX2_passHour_52 : decode cX2_passHour 52 = .ok (.invokevirtual 146, 3) := by decide +kernel
theorem dX2_passHour_55 : decode cX2_passHour 55 = .ok (.aload_n 0, 1) := by decide +kernel
theorem dX2_passHour_56 : decode cX2_passHour 56 = .ok (.dup, 1) := by decide +kernel
theorem dX2_passHour_57 : decode cX2_passHour 57 = .ok (.getfield 62, 3) := by decide +kernel
theorem dX2_passHour_60 : decode cX2_passHour 60 = .ok (.iconst 1, 1) := by decide +kernel
theorem dX2_passHour_61 : decode cX2_passHour 61 = .ok (.isub, 1) := by decide +kernel
theorem dX2_passHour_62 : decode cX2_passHour 62 = .ok (.putfield 62, 3) := by decide +kernel
theorem dX2_passHour_65 : decode cX2_passHour 65 = .ok (.aload_n 0, 1) := by decide +kernel
theorem dX2_passHour_66 : decode cX2_passHour 66 = .ok (.getfield 62, 3) := by decide +kernel
theorem dX2_passHour_69 : decode cX2_passHour 69 = .ok (.ifCond .gt 7, 3) := by decide +kernel
theorem dX2_passHour_72 : decode cX2_passHour 72 = .ok (.aload_n 0, 1) := by decide +kernel
theorem dX2_passHour_73 : decode cX2_passHour 73 = .ok (.invokevirtual 149, 3) := by decide +kernel
theorem dX2_passHour_76 : decode cX2_passHour 76 = .ok (.aload_n 0, 1) := by decide +kernel
theorem dX2_passHour_77 : decode cX2_passHour 77 = .ok (.getfield 68, 3) := by decide +kernel
theorem dX2_passHour_80 : decode cX2_passHour 80 = .ok (.bipush 24, 2) := by decide +kernel
theorem dX2_passHour_82 : decode cX2_passHour 82 = .ok (.irem, 1) := by decide +kernel
theorem dX2_passHour_83 : decode cX2_passHour 83 = .ok (.bipush 6, 2) := by decide +kernel
theorem dX2_passHour_85 : decode cX2_passHour 85 = .ok (.if_icmp .ne 7, 3) := by decide +kernel
theorem dX2_passHour_88 : decode cX2_passHour 88 = .ok (.aload_n 0, 1) := by decide +kernel
theorem dX2_passHour_89 : decode cX2_passHour 89 = .ok (.invokevirtual 152, 3) := by decide +kernel
theorem dX2_passHour_92 : decode cX2_passHour 92 = .ok (.return_, 1) := by decide +kernel
theorem dX2_feedMice_0 : decode cX2_feedMice 0 = .ok (.aload_n 0, 1) := by decide +kernel
theorem dX2_feedMice_1 : decode cX2_feedMice 1 = .ok (.getfield 19, 3) := by decide +kernel
theorem dX2_feedMice_4 : decode cX2_feedMice 4 = .ok (.iload_n 1, 1) := by decide +kernel
theorem dX2_feedMice_5 : decode cX2_feedMice 5 = .ok (.aaload, 1) := by decide +kernel
theorem dX2_feedMice_6 : decode cX2_feedMice 6 = .ok (.astore_n 2, 1) := by decide +kernel
theorem dX2_feedMice_7 : decode cX2_feedMice 7 = .ok (.aload_n 2, 1) := by decide +kernel
theorem dX2_feedMice_8 : decode cX2_feedMice 8 = .ok (.getfield 118, 3) := by decide +kernel
theorem dX2_feedMice_11 : decode cX2_feedMice 11 = .ok (.aload_n 2, 1) := by decide +kernel
theorem dX2_feedMice_12 : decode cX2_feedMice 12 = .ok (.getfield 121, 3) := by decide +kernel
theorem dX2_feedMice_15 : decode cX2_feedMice 15 = .ok (.invokestatic 155, 3) := by decide +kernel
theorem dX2_feedMice_18 : decode cX2_feedMice 18 = .ok (.istore_n 3, 1) := by decide +kernel
theorem dX2_feedMice_19 : decode cX2_feedMice 19 = .ok (.aload_n 2, 1) := by decide +kernel
theorem dX2_feedMice_20 : decode cX2_feedMice 20 = .ok (.dup, 1) := by decide +kernel
theorem dX2_feedMice_21 : decode cX2_feedMice 21 = .ok (.getfield 121, 3) := by decide +kernel
theorem dX2_feedMice_24 : decode cX2_feedMice 24 = .ok (.iload_n 3, 1) := by decide +kernel
theorem dX2_feedMice_25 : decode cX2_feedMice 25 = .ok (.isub, 1) := by decide +kernel
theorem dX2_feedMice_26 : decode cX2_feedMice 26 = .ok (.putfield 121, 3) := by decide +kernel
theorem dX2_feedMice_29 : decode cX2_feedMice 29 = .ok (.aload_n 2, 1) := by decide +kernel
theorem dX2_feedMice_30 : decode cX2_feedMice 30 = .ok (.dup, 1) := by decide +kernel
theorem dX2_feedMice_31 : decode cX2_feedMice 31 = .ok (.getfield 161, 3) := by decide +kernel
theorem dX2_feedMice_34 : decode cX2_feedMice 34 = .ok (.iload_n 3, 1) := by decide +kernel
theorem dX2_feedMice_35 : decode cX2_feedMice 35 = .ok (.iadd, 1) := by decide +kernel
theorem dX2_feedMice_36 : decode cX2_feedMice 36 = .ok (.putfield 161, 3) := by decide +kernel
theorem dX2_feedMice_39 : decode cX2_feedMice 39 = .ok (.aload_n 0, 1) := by decide +kernel
theorem dX2_feedMice_40 : decode cX2_feedMice 40 = .ok (.getfield 39, 3) := by decide +kernel
theorem dX2_feedMice_43 : decode cX2_feedMice 43 = .ok (.dup, 1) := by decide +kernel
theorem dX2_feedMice_44 : decode cX2_feedMice 44 = .ok (.getfield 164, 3) := by decide +kernel
theorem dX2_feedMice_47 : decode cX2_feedMice 47 = .ok (.iload_n 3, 1) := by decide +kernel
theorem dX2_feedMice_48 : decode cX2_feedMice 48 = .ok (.iadd, 1) := by decide +kernel
theorem dX2_feedMice_49 : decode cX2_feedMice 49 = .ok (.putfield 164, 3) := by decide +kernel
theorem dX2_feedMice_52 : decode cX2_feedMice 52 = .ok (.aload_n 2, 1) := by decide +kernel
theorem dX2_feedMice_53 : decode cX2_feedMice 53 = .ok (.getfield 118, 3) := by decide +kernel
theorem dX2_feedMice_56 : decode cX2_feedMice 56 = .ok (.ifCond .eq 10, 3) := by decide +kernel
theorem dX2_feedMice_59 : decode cX2_feedMice 59 = .ok (.aload_n 2, 1) := by decide +kernel
theorem dX2_feedMice_60 : decode cX2_feedMice 60 = .ok (.getfield 121, 3) := by decide +kernel
theorem dX2_feedMice_63 : decode cX2_feedMice 63 = .ok (.ifCond .le 4, 3) := by decide +kernel
theorem dX2_feedMice_66 : decode cX2_feedMice 66 = .ok (.return_, 1) := by decide +kernel
theorem dX2_feedMice_67 : decode cX2_feedMice 67 = .ok (.aload_n 2, 1) := by decide +kernel
theorem dX2_feedMice_68 : decode cX2_feedMice 68 = .ok (.getfield 114, 3) := by decide +kernel
theorem dX2_feedMice_71 : decode cX2_feedMice 71 = .ok (.ifCond .eq 11, 3) := by decide +kernel
theorem dX2_feedMice_74 : decode cX2_feedMice 74 = .ok (.aload_n 0, 1) := by decide +kernel
theorem dX2_feedMice_75 : decode cX2_feedMice 75 = .ok (.iload_n 1, 1) := by decide +kernel
theorem dX2_feedMice_76 : decode cX2_feedMice 76 = .ok (.invokevirtual 165, 3) := by decide +kernel
theorem dX2_feedMice_79 : decode cX2_feedMice 79 = .ok (.goto 4, 3) := by decide +kernel
theorem dX2_feedMice_82 : decode cX2_feedMice 82 = .ok (.iconst (-1), 1) := by decide +kernel
theorem dX2_feedMice_83 : decode cX2_feedMice 83 = .ok (.istore 4, 2) := by decide +kernel
theorem dX2_feedMice_85 : decode cX2_feedMice 85 = .ok (.iload 4, 2) := by decide +kernel
theorem dX2_feedMice_87 : decode cX2_feedMice 87 = .ok (.iconst (-1), 1) := by decide +kernel
theorem dX2_feedMice_88 : decode cX2_feedMice 88 = .ok (.if_icmp .ne 19, 3) := by decide +kernel
theorem dX2_feedMice_91 : decode cX2_feedMice 91 = .ok (.aload_n 0, 1) := by decide +kernel
theorem dX2_feedMice_92 : decode cX2_feedMice 92 = .ok (.aload_n 2, 1) := by decide +kernel
theorem dX2_feedMice_93 : decode cX2_feedMice 93 = .ok (.aload_n 2, 1) := by decide +kernel
theorem dX2_feedMice_94 : decode cX2_feedMice 94 = .ok (.getfield 118, 3) := by decide +kernel
theorem dX2_feedMice_97 : decode cX2_feedMice 97 = .ok (.iconst 1, 1) := by decide +kernel
theorem dX2_feedMice_98 : decode cX2_feedMice 98 = .ok (.iadd, 1) := by decide +kernel
theorem dX2_feedMice_99 : decode cX2_feedMice 99 = .ok (.iconst 2, 1) := by decide +kernel
theorem dX2_feedMice_100 : decode cX2_feedMice 100 = .ok (.idiv, 1) := by decide +kernel
theorem dX2_feedMice_101 : decode cX2_feedMice 101 = .ok (.invokevirtual 168, 3) := by decide +kernel
theorem dX2_feedMice_104 : decode cX2_feedMice 104 = .ok (.goto 55, 3) := by decide +kernel
theorem dX2_feedMice_107 : decode cX2_feedMice 107 = .ok (.aload_n 0, 1) := by decide +kernel
theorem dX2_feedMice_108 : decode cX2_feedMice 108 = .ok (.getfield 19, 3) := by decide +kernel
theorem dX2_feedMice_111 : decode cX2_feedMice 111 = .ok (.iload 4, 2) := by decide +kernel
theorem dX2_feedMice_113 : decode cX2_feedMice 113 = .ok (.aaload, 1) := by decide +kernel
theorem dX2_feedMice_114 : decode cX2_feedMice 114 = .ok (.dup, 1) := by decide +kernel
theorem dX2_feedMice_115 : decode cX2_feedMice 115 = .ok (.getfield 118, 3) := by decide +kernel
theorem dX2_feedMice_118 : decode cX2_feedMice 118 = .ok (.aload_n 2, 1) := by decide +kernel
theorem dX2_feedMice_119 : decode cX2_feedMice 119 = .ok (.getfield 118, 3) := by decide +kernel
theorem dX2_feedMice_122 : decode cX2_feedMice 122 = .ok (.iadd, 1) := by decide +kernel
theorem dX2_feedMice_123 : decode cX2_feedMice 123 = .ok (.putfield 118, 3) := by decide +kernel
theorem dX2_feedMice_126 : decode cX2_feedMice 126 = .ok (.aload_n 2, 1) := by decide +kernel
theorem dX2_feedMice_127 : decode cX2_feedMice 127 = .ok (.iconst 0, 1) := by decide +kernel
theorem dX2_feedMice_128 : decode cX2_feedMice 128 = .ok (.putfield 118, 3) := by decide +kernel
theorem dX2_feedMice_131 : decode cX2_feedMice 131 = .ok (.aload_n 0, 1) := by decide +kernel
theorem dX2_feedMice_132 : decode cX2_feedMice 132 = .ok (.aload_n 0, 1) := by decide +kernel
theorem dX2_feedMice_133 : decode cX2_feedMice 133 = .ok (.getfield 19, 3) := by decide +kernel
theorem dX2_feedMice_136 : decode cX2_feedMice 136 = .ok (.iload 4, 2) := by decide +kernel
theorem dX2_feedMice_138 : decode cX2_feedMice 138 = .ok (.aaload, 1) := by decide +kernel
theorem dX2_feedMice_139 : decode cX2_feedMice 139 = .ok (.aload_n 0, 1) := by decide +kernel
theorem dX2_feedMice_140 : decode cX2_feedMice 140 = .ok (.getfield 19, 3) := by decide +kernel
theorem dX2_feedMice_143 : decode cX2_feedMice 143 = .ok (.iload 4, 2) := by decide +kernel
theorem dX2_feedMice_145 : decode cX2_feedMice 145 = .ok (.aaload, 1) := by decide +kernel
theorem dX2_feedMice_146 : decode cX2_feedMice 146 = .ok (.getfield 118, 3) := by decide +kernel
theorem dX2_feedMice_149 : decode cX2_feedMice 149 = .ok (.bipush 99, 2) := by decide +kernel
theorem dX2_feedMice_151 : decode cX2_feedMice 151 = .ok (.isub, 1) := by decide +kernel
theorem dX2_feedMice_152 : decode cX2_feedMice 152 = .ok (.iconst 0, 1) := by decide +kernel
theorem dX2_feedMice_153 : decode cX2_feedMice 153 = .ok (.invokestatic 172, 3) := by decide +kernel
theorem dX2_feedMice_156 : decode cX2_feedMice 156 = .ok (.invokevirtual 168, 3) := by decide +kernel
theorem dX2_feedMice_159 : decode cX2_feedMice 159 = .ok (.return_, 1) := by decide +kernel
theorem dX2_nextOpenSack_0 : decode cX2_nextOpenSack 0 = .ok (.iconst 1, 1) := by decide +kernel
theorem dX2_nextOpenSack_1 : decode cX2_nextOpenSack 1 = .ok (.istore_n 2, 1) := by decide +kernel
theorem dX2_nextOpenSack_2 : decode cX2_nextOpenSack 2 = .ok (.iload_n 2, 1) := by decide +kernel
theorem dX2_nextOpenSack_3 : decode cX2_nextOpenSack 3 = .ok (.aload_n 0, 1) := by decide +kernel
theorem dX2_nextOpenSack_4 : decode cX2_nextOpenSack 4 = .ok (.getfield 53, 3) := by decide +kernel
theorem dX2_nextOpenSack_7 : decode cX2_nextOpenSack 7 = .ok (.if_icmp .ge 32, 3) := by decide +kernel
theorem dX2_nextOpenSack_10 : decode cX2_nextOpenSack 10 = .ok (.iload_n 1, 1) := by decide +kernel
theorem dX2_nextOpenSack_11 : decode cX2_nextOpenSack 11 = .ok (.iload_n 2, 1) := by decide +kernel
theorem dX2_nextOpenSack_12 : decode cX2_nextOpenSack 12 = .ok (.iadd, 1) := by decide +kernel
theorem dX2_nextOpenSack_13 : decode cX2_nextOpenSack 13 = .ok (.aload_n 0, 1) := by decide +kernel
theorem dX2_nextOpenSack_14 : decode cX2_nextOpenSack 14 = .ok (.getfield 53, 3) := by decide +kernel
theorem dX2_nextOpenSack_17 : decode cX2_nextOpenSack 17 = .ok (.irem, 1) := by decide +kernel
theorem dX2_nextOpenSack_18 : decode cX2_nextOpenSack 18 = .ok (.istore_n 3, 1) := by decide +kernel
theorem dX2_nextOpenSack_19 : decode cX2_nextOpenSack 19 = .ok (.aload_n 0, 1) := by decide +kernel
theorem dX2_nextOpenSack_20 : decode cX2_nextOpenSack 20 = .ok (.getfield 19, 3) := by decide +kernel
theorem dX2_nextOpenSack_23 : decode cX2_nextOpenSack 23 = .ok (.iload_n 3, 1) := by decide +kernel
theorem dX2_nextOpenSack_24 : decode cX2_nextOpenSack 24 = .ok (.aaload, 1) := by decide +kernel
theorem dX2_nextOpenSack_25 : decode cX2_nextOpenSack 25 = .ok (.getfield 114, 3) := by decide +kernel
theorem dX2_nextOpenSack_28 : decode cX2_nextOpenSack 28 = .ok (.ifCond .eq 5, 3) := by decide +kernel
theorem dX2_nextOpenSack_31 : decode cX2_nextOpenSack 31 = .ok (.iload_n 3, 1) := by decide +kernel
theorem dX2_nextOpenSack_32 : decode cX2_nextOpenSack 32 = .ok (.ireturn, 1) := by decide +kernel
theorem dX2_nextOpenSack_33 : decode cX2_nextOpenSack 33 = .ok (.iinc 2 1, 3) := by decide +kernel
theorem dX2_nextOpenSack_36 : decode cX2_nextOpenSack 36 = .ok (.goto (-34), 3) := by decide +kernel
theorem dX2_nextOpenSack_39 : decode cX2_nextOpenSack 39 = .ok (.iconst (-1), 1) := by decide +kernel
theorem dX2_nextOpenSack_40 : decode cX2_nextOpenSack 40 = .ok (.ireturn, 1) := by decide +kernel
theorem dX2_starve_0 : decode cX2_starve 0 = .ok (.aload_n 1, 1) := by decide +kernel
theorem dX2_starve_1 : decode cX2_starve 1 = .ok (.dup, 1) := by decide +kernel
theorem dX2_starve_2 : decode cX2_starve 2 = .ok (.getfield 118, 3) := by decide +kernel
theorem dX2_starve_5 : decode cX2_starve 5 = .ok (.iload_n 2, 1) := by decide +kernel
theorem dX2_starve_6 : decode cX2_starve 6 = .ok (.isub, 1) := by decide +kernel
theorem dX2_starve_7 : decode cX2_starve 7 = .ok (.putfield 118, 3) := by decide +kernel
theorem dX2_starve_10 : decode cX2_starve 10 = .ok (.aload_n 0, 1) := by decide +kernel
theorem dX2_starve_11 : decode cX2_starve 11 = .ok (.getfield 39, 3) := by decide +kernel
theorem dX2_starve_14 : decode cX2_starve 14 = .ok (.dup, 1) := by decide +kernel
theorem dX2_starve_15 : decode cX2_starve 15 = .ok (.getfield 175, 3) := by decide +kernel
theorem dX2_starve_18 : decode cX2_starve 18 = .ok (.iload_n 2, 1) := by decide +kernel
theorem dX2_starve_19 : decode cX2_starve 19 = .ok (.iadd, 1) := by decide +kernel
theorem dX2_starve_20 : decode cX2_starve 20 = .ok (.putfield 175, 3) := by decide +kernel
theorem dX2_starve_23 : decode cX2_starve 23 = .ok (.return_, 1) := by decide +kernel
theorem dX2_growMice_0 : decode cX2_growMice 0 = .ok (.iconst 0, 1) := by decide +kernel
theorem dX2_growMice_1 : decode cX2_growMice 1 = .ok (.istore_n 1, 1) := by decide +kernel
theorem dX2_growMice_2 : decode cX2_growMice 2 = .ok (.iload_n 1, 1) := by decide +kernel
theorem dX2_growMice_3 : decode cX2_growMice 3 = .ok (.aload_n 0, 1) := by decide +kernel
theorem dX2_growMice_4 : decode cX2_growMice 4 = .ok (.getfield 53, 3) := by decide +kernel
theorem dX2_growMice_7 : decode cX2_growMice 7 = .ok (.if_icmp .ge 64, 3) := by decide +kernel
theorem dX2_growMice_10 : decode cX2_growMice 10 = .ok (.aload_n 0, 1) := by decide +kernel
theorem dX2_growMice_11 : decode cX2_growMice 11 = .ok (.getfield 19, 3) := by decide +kernel
theorem dX2_growMice_14 : decode cX2_growMice 14 = .ok (.iload_n 1, 1) := by decide +kernel
theorem dX2_growMice_15 : decode cX2_growMice 15 = .ok (.aaload, 1) := by decide +kernel
theorem dX2_growMice_16 : decode cX2_growMice 16 = .ok (.getfield 118, 3) := by decide +kernel
theorem dX2_growMice_19 : decode cX2_growMice 19 = .ok (.iconst 2, 1) := by decide +kernel
theorem dX2_growMice_20 : decode cX2_growMice 20 = .ok (.idiv, 1) := by decide +kernel
theorem dX2_growMice_21 : decode cX2_growMice 21 = .ok (.bipush 99, 2) := by decide +kernel
theorem dX2_growMice_23 : decode cX2_growMice 23 = .ok (.aload_n 0, 1) := by decide +kernel
theorem dX2_growMice_24 : decode cX2_growMice 24 = .ok (.getfield 19, 3) := by decide +kernel
theorem dX2_growMice_27 : decode cX2_growMice 27 = .ok (.iload_n 1, 1) := by decide +kernel
theorem dX2_growMice_28 : decode cX2_growMice 28 = .ok (.aaload, 1) := by decide +kernel
theorem dX2_growMice_29 : decode cX2_growMice 29 = .ok (.getfield 118, 3) := by decide +kernel
theorem dX2_growMice_32 : decode cX2_growMice 32 = .ok (.isub, 1) := by decide +kernel
theorem dX2_growMice_33 : decode cX2_growMice 33 = .ok (.invokestatic 155, 3) := by decide +kernel
theorem dX2_growMice_36 : decode cX2_growMice 36 = .ok (.istore_n 2, 1) := by decide +kernel
theorem dX2_growMice_37 : decode cX2_growMice 37 = .ok (.aload_n 0, 1) := by decide +kernel
theorem dX2_growMice_38 : decode cX2_growMice 38 = .ok (.getfield 19, 3) := by decide +kernel
theorem dX2_growMice_41 : decode cX2_growMice 41 = .ok (.iload_n 1, 1) := by decide +kernel
theorem dX2_growMice_42 : decode cX2_growMice 42 = .ok (.aaload, 1) := by decide +kernel
theorem dX2_growMice_43 : decode cX2_growMice 43 = .ok (.dup, 1) := by decide +kernel
theorem dX2_growMice_44 : decode cX2_growMice 44 = .ok (.getfield 118, 3) := by decide +kernel
theorem dX2_growMice_47 : decode cX2_growMice 47 = .ok (.iload_n 2, 1) := by decide +kernel
theorem dX2_growMice_48 : decode cX2_growMice 48 = .ok (.iadd, 1) := by decide +kernel
theorem dX2_growMice_49 : decode cX2_growMice 49 = .ok (.putfield 118, 3) := by decide +kernel
theorem dX2_growMice_52 : decode cX2_growMice 52 = .ok (.aload_n 0, 1) := by decide +kernel
theorem dX2_growMice_53 : decode cX2_growMice 53 = .ok (.getfield 39, 3) := by decide +kernel
theorem dX2_growMice_56 : decode cX2_growMice 56 = .ok (.dup, 1) := by decide +kernel
theorem dX2_growMice_57 : decode cX2_growMice 57 = .ok (.getfield 178, 3) := by decide +kernel
theorem dX2_growMice_60 : decode cX2_growMice 60 = .ok (.iload_n 2, 1) := by decide +kernel
theorem dX2_growMice_61 : decode cX2_growMice 61 = .ok (.iadd, 1) := by decide +kernel
theorem dX2_growMice_62 : decode cX2_growMice 62 = .ok (.putfield 178, 3) := by decide +kernel
theorem dX2_growMice_65 : decode cX2_growMice 65 = .ok (.iinc 1 1, 3) := by decide +kernel
theorem dX2_growMice_68 : decode cX2_growMice 68 = .ok (.goto (-66), 3) := by decide +kernel
theorem dX2_growMice_71 : decode cX2_growMice 71 = .ok (.return_, 1) := by decide +kernel
theorem dX2_hunt_0 : decode cX2_hunt 0 = .ok (.aload_n 0, 1) := by decide +kernel
theorem dX2_hunt_1 : decode cX2_hunt 1 = .ok (.invokevirtual 181, 3) := by decide +kernel
theorem dX2_hunt_4 : decode cX2_hunt 4 = .ok (.istore_n 1, 1) := by decide +kernel
theorem dX2_hunt_5 : decode cX2_hunt 5 = .ok (.aload_n 0, 1) := by decide +kernel
theorem dX2_hunt_6 : decode cX2_hunt 6 = .ok (.getfield 43, 3) := by decide +kernel
theorem dX2_hunt_9 : decode cX2_hunt 9 = .ok (.iconst (-1), 1) := by decide +kernel
theorem dX2_hunt_10 : decode cX2_hunt 10 = .ok (.if_icmp .eq 8, 3) := by decide +kernel
theorem dX2_hunt_13 : decode cX2_hunt 13 = .ok (.iload_n 1, 1) := by decide +kernel
theorem dX2_hunt_14 : decode cX2_hunt 14 = .ok (.iconst (-1), 1) := by decide +kernel
theorem dX2_hunt_15 : decode cX2_hunt 15 = .ok (.if_icmp .ne 5, 3) := by decide +kernel
theorem dX2_hunt_18 : decode cX2_hunt 18 = .ok (.iconst (-1), 1) := by decide +kernel
theorem dX2_hunt_19 : decode cX2_hunt 19 = .ok (.ireturn, 1) := by decide +kernel
theorem dX2_hunt_20 : decode cX2_hunt 20 = .ok (.aload_n 0, 1) := by decide +kernel
theorem dX2_hunt_21 : decode cX2_hunt 21 = .ok (.getfield 11, 3) := by decide +kernel
theorem dX2_hunt_24 : decode cX2_hunt 24 = .ok (.aload_n 0, 1) := by decide +kernel
theorem dX2_hunt_25 : decode cX2_hunt 25 = .ok (.getfield 43, 3) := by decide +kernel
theorem dX2_hunt_28 : decode cX2_hunt 28 = .ok (.aaload, 1) := by decide +kernel
theorem dX2_hunt_29 : decode cX2_hunt 29 = .ok (.astore_n 2, 1) := by decide +kernel
theorem dX2_hunt_30 : decode cX2_hunt 30 = .ok (.aload_n 0, 1) := by decide +kernel
theorem dX2_hunt_31 : decode cX2_hunt 31 = .ok (.getfield 19, 3) := by decide +kernel
theorem dX2_hunt_34 : decode cX2_hunt 34 = .ok (.iload_n 1, 1) := by decide +kernel
theorem dX2_hunt_35 : decode cX2_hunt 35 = .ok (.aaload, 1) := by decide +kernel
theorem dX2_hunt_36 : decode cX2_hunt 36 = .ok (.astore_n 3, 1) := by decide +kernel
theorem dX2_hunt_37 : decode cX2_hunt 37 = .ok (.aload_n 2, 1) := by decide +kernel
theorem dX2_hunt_38 : decode cX2_hunt 38 = .ok (.invokevirtual 184, 3) := by decide +kernel
theorem dX2_hunt_41 : decode cX2_hunt 41 = .ok (.aload_n 3, 1) := by decide +kernel
theorem dX2_hunt_42 : decode cX2_hunt 42 = .ok (.getfield 118, 3) := by decide +kernel
theorem dX2_hunt_45 : decode cX2_hunt 45 = .ok (.invokestatic 155, 3) := by decide +kernel
theorem dX2_hunt_48 : decode cX2_hunt 48 = .ok (.istore 4, 2) := by decide +kernel
theorem dX2_hunt_50 : decode cX2_hunt 50 = .ok (.aload_n 3, 1) := by decide +kernel
theorem dX2_hunt_51 : decode cX2_hunt 51 = .ok (.dup, 1) := by decide +kernel
theorem dX2_hunt_52 : decode cX2_hunt 52 = .ok (.getfield 118, 3) := by decide +kernel
theorem dX2_hunt_55 : decode cX2_hunt 55 = .ok (.iload 4, 2) := by decide +kernel
theorem dX2_hunt_57 : decode cX2_hunt 57 = .ok (.isub, 1) := by decide +kernel
theorem dX2_hunt_58 : decode cX2_hunt 58 = .ok (.putfield 118, 3) := by decide +kernel
theorem dX2_hunt_61 : decode cX2_hunt 61 = .ok (.aload_n 2, 1) := by decide +kernel
theorem dX2_hunt_62 : decode cX2_hunt 62 = .ok (.dup, 1) := by decide +kernel
theorem dX2_hunt_63 : decode cX2_hunt 63 = .ok (.getfield 187, 3) := by decide +kernel
theorem dX2_hunt_66 : decode cX2_hunt 66 = .ok (.iload 4, 2) := by decide +kernel
theorem dX2_hunt_68 : decode cX2_hunt 68 = .ok (.iadd, 1) := by decide +kernel
theorem dX2_hunt_69 : decode cX2_hunt 69 = .ok (.putfield 187, 3) := by decide +kernel
theorem dX2_hunt_72 : decode cX2_hunt 72 = .ok (.aload_n 0, 1) := by decide +kernel
theorem dX2_hunt_73 : decode cX2_hunt 73 = .ok (.getfield 39, 3) := by decide +kernel
theorem dX2_hunt_76 : decode cX2_hunt 76 = .ok (.dup, 1) := by decide +kernel
theorem dX2_hunt_77 : decode cX2_hunt 77 = .ok (.getfield 131, 3) := by decide +kernel
theorem dX2_hunt_80 : decode cX2_hunt 80 = .ok (.iload 4, 2) := by decide +kernel
theorem dX2_hunt_82 : decode cX2_hunt 82 = .ok (.iadd, 1) := by decide +kernel
theorem dX2_hunt_83 : decode cX2_hunt 83 = .ok (.putfield 131, 3) := by decide +kernel
theorem dX2_hunt_86 : decode cX2_hunt 86 = .ok (.aload_n 2, 1) := by decide +kernel
theorem dX2_hunt_87 : decode cX2_hunt 87 = .ok (.invokevirtual 188, 3) := by decide +kernel
theorem dX2_hunt_90 : decode cX2_hunt 90 = .ok (.aload_n 0, 1) := by decide +kernel
theorem dX2_hunt_91 : decode cX2_hunt 91 = .ok (.getfield 32, 3) := by decide +kernel
theorem dX2_hunt_94 : decode cX2_hunt 94 = .ok (.iconst 1, 1) := by decide +kernel
theorem dX2_hunt_95 : decode cX2_hunt 95 = .ok (.aload_n 0, 1) := by decide +kernel
theorem dX2_hunt_96 : decode cX2_hunt 96 = .ok (.getfield 43, 3) := by decide +kernel
theorem dX2_hunt_99 : decode cX2_hunt 99 = .ok (.iload 4, 2) := by decide +kernel
theorem dX2_hunt_101 : decode cX2_hunt 101 = .ok (.invokevirtual 191, 3) := by decide +kernel
theorem dX2_hunt_104 : decode cX2_hunt 104 = .ok (.aload_n 0, 1) := by decide +kernel
theorem dX2_hunt_105 : decode cX2_hunt 105 = .ok (.getfield 43, 3) := by decide +kernel
theorem dX2_hunt_108 : decode cX2_hunt 108 = .ok (.ireturn, 1) := by decide +kernel
theorem dX2_busiestOpenSack_0 : decode cX2_busiestOpenSack 0 = .ok (.iconst (-1), 1) := by decide +kernel
theorem dX2_busiestOpenSack_1 : decode cX2_busiestOpenSack 1 = .ok (.istore_n 1, 1) := by decide +kernel
theorem dX2_busiestOpenSack_2 : decode cX2_busiestOpenSack 2 = .ok (.iconst 0, 1) := by decide +kernel
theorem dX2_busiestOpenSack_3 : decode cX2_busiestOpenSack 3 = .ok (.istore_n 2, 1) := by decide +kernel
theorem dX2_busiestOpenSack_4 : decode cX2_busiestOpenSack 4 = .ok (.iconst 0, 1) := by decide +kernel
theorem dX2_busiestOpenSack_5 : decode cX2_busiestOpenSack 5 = .ok (.istore_n 3, 1) := by decide +kernel
theorem dX2_busiestOpenSack_6 : decode cX2_busiestOpenSack 6 = .ok (.iload_n 3, 1) := by decide +kernel
theorem dX2_busiestOpenSack_7 : decode cX2_busiestOpenSack 7 = .ok (.aload_n 0, 1) := by decide +kernel
theorem dX2_busiestOpenSack_8 : decode cX2_busiestOpenSack 8 = .ok (.getfield 53, 3) := by decide +kernel
theorem dX2_busiestOpenSack_11 : decode cX2_busiestOpenSack 11 = .ok (.if_icmp .ge 46, 3) := by decide +kernel
theorem dX2_busiestOpenSack_14 : decode cX2_busiestOpenSack 14 = .ok (.aload_n 0, 1) := by decide +kernel
theorem dX2_busiestOpenSack_15 : decode cX2_busiestOpenSack 15 = .ok (.getfield 19, 3) := by decide +kernel
theorem dX2_busiestOpenSack_18 : decode cX2_busiestOpenSack 18 = .ok (.iload_n 3, 1) := by decide +kernel
theorem dX2_busiestOpenSack_19 : decode cX2_busiestOpenSack 19 = .ok (.aaload, 1) := by decide +kernel
theorem dX2_busiestOpenSack_20 : decode cX2_busiestOpenSack 20 = .ok (.getfield 114, 3) := by decide +kernel
theorem dX2_busiestOpenSack_23 : decode cX2_busiestOpenSack 23 = .ok (.ifCond .eq 28, 3) := by decide +kernel
theorem dX2_busiestOpenSack_26 : decode cX2_busiestOpenSack 26 = .ok (.aload_n 0, 1) := by decide +kernel
theorem dX2_busiestOpenSack_27 : decode cX2_busiestOpenSack 27 = .ok (.getfield 19, 3) := by decide +kernel
theorem dX2_busiestOpenSack_30 : decode cX2_busiestOpenSack 30 = .ok (.iload_n 3, 1) := by decide +kernel
theorem dX2_busiestOpenSack_31 : decode cX2_busiestOpenSack 31 = .ok (.aaload, 1) := by decide +kernel
theorem dX2_busiestOpenSack_32 : decode cX2_busiestOpenSack 32 = .ok (.getfield 118, 3) := by decide +kernel
theorem dX2_busiestOpenSack_35 : decode cX2_busiestOpenSack 35 = .ok (.iload_n 2, 1) := by decide +kernel
theorem dX2_busiestOpenSack_36 : decode cX2_busiestOpenSack 36 = .ok (.if_icmp .le 15, 3) := by decide +kernel
theorem dX2_busiestOpenSack_39 : decode cX2_busiestOpenSack 39 = .ok (.aload_n 0, 1) := by decide +kernel
theorem dX2_busiestOpenSack_40 : decode cX2_busiestOpenSack 40 = .ok (.getfield 19, 3) := by decide +kernel
theorem dX2_busiestOpenSack_43 : decode cX2_busiestOpenSack 43 = .ok (.iload_n 3, 1) := by decide +kernel
theorem dX2_busiestOpenSack_44 : decode cX2_busiestOpenSack 44 = .ok (.aaload, 1) := by decide +kernel
theorem dX2_busiestOpenSack_45 : decode cX2_busiestOpenSack 45 = .ok (.getfield 118, 3) := by decide +kernel
theorem dX2_busiestOpenSack_48 : decode cX2_busiestOpenSack 48 = .ok (.istore_n 2, 1) := by decide +kernel
theorem dX2_busiestOpenSack_49 : decode cX2_busiestOpenSack 49 = .ok (.iload_n 3, 1) := by decide +kernel
theorem dX2_busiestOpenSack_50 : decode cX2_busiestOpenSack 50 = .ok (.istore_n 1, 1) := by decide +kernel
theorem dX2_busiestOpenSack_51 : decode cX2_busiestOpenSack 51 = .ok (.iinc 3 1, 3) := by decide +kernel
theorem dX2_busiestOpenSack_54 : decode cX2_busiestOpenSack 54 = .ok (.goto (-48), 3) := by decide +kernel
theorem dX2_busiestOpenSack_57 : decode cX2_busiestOpenSack 57 = .ok (.iload_n 1, 1) := by decide +kernel
theorem dX2_busiestOpenSack_58 : decode cX2_busiestOpenSack 58 = .ok (.ireturn, 1) := by decide +kernel
theorem dX2_restAllBut_0 : decode cX2_restAllBut 0 = .ok (.iconst 0, 1) := by decide +kernel
theorem dX2_restAllBut_1 : decode cX2_restAllBut 1 = .ok (.istore_n 2, 1) := by decide +kernel
theorem dX2_restAllBut_2 : decode cX2_restAllBut 2 = .ok (.iload_n 2, 1) := by decide +kernel
theorem dX2_restAllBut_3 : decode cX2_restAllBut 3 = .ok (.aload_n 0, 1) := by decide +kernel
theorem dX2_restAllBut_4 : decode cX2_restAllBut 4 = .ok (.getfield 50, 3) := by decide +kernel
theorem dX2_restAllBut_7 : decode cX2_restAllBut 7 = .ok (.if_icmp .ge 24, 3) := by decide +kernel
theorem dX2_restAllBut_10 : decode cX2_restAllBut 10 = .ok (.iload_n 2, 1) := by decide +kernel
theorem dX2_restAllBut_11 : decode cX2_restAllBut 11 = .ok (.iload_n 1, 1) := by decide +kernel
theorem dX2_restAllBut_12 : decode cX2_restAllBut 12 = .ok (.if_icmp .eq 13, 3) := by decide +kernel
theorem dX2_restAllBut_15 : decode cX2_restAllBut 15 = .ok (.aload_n 0, 1) := by decide +kernel
theorem dX2_restAllBut_16 : decode cX2_restAllBut 16 = .ok (.getfield 11, 3) := by decide +kernel
theorem dX2_restAllBut_19 : decode cX2_restAllBut 19 = .ok (.iload_n 2, 1) := by decide +kernel
theorem dX2_restAllBut_20 : decode cX2_restAllBut 20 = .ok (.aaload, 1) := by decide +kernel
theorem dX2_restAllBut_21 : decode cX2_restAllBut 21 = .ok (.iconst 1, 1) := by decide +kernel
theorem dX2_restAllBut_22 : decode cX2_restAllBut 22 = .ok (.invokevirtual 195, 3) := by decide +kernel
theorem dX2_restAllBut_25 : decode cX2_restAllBut 25 = .ok (.iinc 2 1, 3) := by decide +kernel
theorem dX2_restAllBut_28 : decode cX2_restAllBut 28 = .ok (.goto (-26), 3) := by decide +kernel
theorem dX2_restAllBut_31 : decode cX2_restAllBut 31 = .ok (.return_, 1) := by decide +kernel
theorem dX2_changeShift_0 : decode cX2_changeShift 0 = .ok (.aload_n 0, 1) := by decide +kernel
theorem dX2_changeShift_1 : decode cX2_changeShift 1 = .ok (.aload_n 0, 1) := by decide +kernel
theorem dX2_changeShift_2 : decode cX2_changeShift 2 = .ok (.getfield 59, 3) := by decide +kernel
theorem dX2_changeShift_5 : decode cX2_changeShift 5 = .ok (.iconst 1, 1) := by decide +kernel
theorem dX2_changeShift_6 : decode cX2_changeShift 6 = .ok (.iadd, 1) := by decide +kernel
theorem dX2_changeShift_7 : decode cX2_changeShift 7 = .ok (.aload_n 0, 1) := by decide +kernel
theorem dX2_changeShift_8 : decode cX2_changeShift 8 = .ok (.getfield 56, 3) := by decide +kernel
theorem dX2_changeShift_11 : decode cX2_changeShift 11 = .ok (.if_icmp .ge 12, 3) := by decide +kernel
theorem dX2_changeShift_14 : decode cX2_changeShift 14 = .ok (.aload_n 0, 1) := by decide +kernel
theorem dX2_changeShift_15 : decode cX2_changeShift 15 = .ok (.getfield 59, 3) := by decide +kernel
theorem dX2_changeShift_18 : decode cX2_changeShift 18 = .ok (.iconst 1, 1) := by decide +kernel
theorem dX2_changeShift_19 : decode cX2_changeShift 19 = .ok (.iadd, 1) := by decide +kernel
theorem dX2_changeShift_20 : decode cX2_changeShift 20 = .ok (.goto 4, 3) := by decide +kernel
theorem dX2_changeShift_23 : decode cX2_changeShift 23 = .ok (.iconst 0, 1) := by decide +kernel
theorem dX2_changeShift_24 : decode cX2_changeShift 24 = .ok (.putfield 59, 3) := by decide +kernel
theorem dX2_changeShift_27 : decode cX2_changeShift 27 = .ok (.aload_n 0, 1) := by decide +kernel
theorem dX2_changeShift_28 : decode cX2_changeShift 28 = .ok (.aload_n 0, 1) := by decide +kernel
theorem dX2_changeShift_29 : decode cX2_changeShift 29 = .ok (.getfield 25, 3) := by decide +kernel
theorem dX2_changeShift_32 : decode cX2_changeShift 32 = .ok (.aload_n 0, 1) := by decide +kernel
theorem dX2_changeShift_33 : decode cX2_changeShift 33 = .ok (.getfield 59, 3) := by decide +kernel
theorem dX2_changeShift_36 : decode cX2_changeShift 36 = .ok (.aaload, 1) := by decide +kernel
theorem dX2_changeShift_37 : decode cX2_changeShift 37 = .ok (.getfield 104, 3) := by decide +kernel
theorem dX2_changeShift_40 : decode cX2_changeShift 40 = .ok (.putfield 62, 3) := by decide +kernel
theorem dX2_changeShift_43 : decode cX2_changeShift 43 = .ok (.aload_n 0, 1) := by decide +kernel
theorem dX2_changeShift_44 : decode cX2_changeShift 44 = .ok (.getfield 43, 3) := by decide +kernel
theorem dX2_changeShift_47 : decode cX2_changeShift 47 = .ok (.iconst (-1), 1) := by decide +kernel
theorem dX2_changeShift_48 : decode cX2_changeShift 48 = .ok (.if_icmp .ne 4, 3) := by decide +kernel
theorem dX2_changeShift_51 : decode cX2_changeShift 51 = .ok (.return_, 1) := by decide +kernel
theorem dX2_changeShift_52 : decode cX2_changeShift 52 = .ok (.aload_n 0, 1) := by decide +kernel
theorem dX2_changeShift_53 : decode cX2_changeShift 53 = .ok (.getfield 43, 3) := by decide +kernel
theorem dX2_changeShift_56 : decode cX2_changeShift 56 = .ok (.istore_n 1, 1) := by decide +kernel
theorem dX2_changeShift_57 : decode cX2_changeShift 57 = .ok (.aload_n 0, 1) := by decide +kernel
theorem dX2_changeShift_58 : decode cX2_changeShift 58 = .ok (.getfield 25, 3) := by decide +kernel
theorem dX2_changeShift_61 : decode cX2_changeShift 61 = .ok (.aload_n 0, 1) := by decide +kernel
theorem dX2_changeShift_62 : decode cX2_changeShift 62 = .ok (.getfield 59, 3) := by decide +kernel
theorem dX2_changeShift_65 : decode cX2_changeShift 65 = .ok (.aaload, 1) := by decide +kernel
theorem dX2_changeShift_66 : decode cX2_changeShift 66 = .ok (.getfield 107, 3) := by decide +kernel
theorem dX2_changeShift_69 : decode cX2_changeShift 69 = .ok (.istore_n 2, 1) := by decide +kernel
theorem dX2_changeShift_70 : decode cX2_changeShift 70 = .ok (.aload_n 0, 1) := by decide +kernel
theorem dX2_changeShift_71 : decode cX2_changeShift 71 = .ok (.iload_n 2, 1) := by decide +kernel
theorem dX2_changeShift_72 : decode cX2_changeShift 72 = .ok (.invokevirtual 198, 3) := by decide +kernel
theorem dX2_changeShift_75 : decode cX2_changeShift 75 = .ok (.ifCond .ne 21, 3) := by decide +kernel
theorem dX2_changeShift_78 : decode cX2_changeShift 78 = .ok (.aload_n 0, 1) := by decide +kernel
theorem dX2_changeShift_79 : decode cX2_changeShift 79 = .ok (.iload_n 2, 1) := by decide +kernel
theorem dX2_changeShift_80 : decode cX2_changeShift 80 = .ok (.invokevirtual 110, 3) := by decide +kernel
theorem dX2_changeShift_83 : decode cX2_changeShift 83 = .ok (.aload_n 0, 1) := by decide +kernel
theorem dX2_changeShift_84 : decode cX2_changeShift 84 = .ok (.getfield 32, 3) := by decide +kernel
theorem dX2_changeShift_87 : decode cX2_changeShift 87 = .ok (.iconst 2, 1) := by decide +kernel
theorem dX2_changeShift_88 : decode cX2_changeShift 88 = .ok (.iload_n 2, 1) := by decide +kernel
theorem dX2_changeShift_89 : decode cX2_changeShift 89 = .ok (.iload_n 1, 1) := by decide +kernel
theorem dX2_changeShift_90 : decode cX2_changeShift 90 = .ok (.invokevirtual 191, 3) := by decide +kernel
theorem dX2_changeShift_93 : decode cX2_changeShift 93 = .ok (.goto 31, 3) := by decide +kernel
theorem dX2_changeShift_96 : decode cX2_changeShift 96 = .ok (.aload_n 0, 1) := by decide +kernel
theorem dX2_changeShift_97 : decode cX2_changeShift 97 = .ok (.iconst (-1), 1) := by decide +kernel
theorem dX2_changeShift_98 : decode cX2_changeShift 98 = .ok (.putfield 43, 3) := by decide +kernel
theorem dX2_changeShift_101 : decode cX2_changeShift 101 = .ok (.aload_n 0, 1) := by decide +kernel
theorem dX2_changeShift_102 : decode cX2_changeShift 102 = .ok (.getfield 39, 3) := by decide +kernel
theorem dX2_changeShift_105 : decode cX2_changeShift 105 = .ok (.dup, 1) := by decide +kernel
theorem dX2_changeShift_106 : decode cX2_changeShift 106 = .ok (.getfield 201, 3) := by decide +kernel
theorem dX2_changeShift_109 : decode cX2_changeShift 109 = .ok (.iconst 1, 1) := by decide +kernel
theorem dX2_changeShift_110 : decode cX2_changeShift 110 = .ok (.iadd, 1) := by decide +kernel
theorem dX2_changeShift_111 : decode cX2_changeShift 111 = .ok (.putfield 201, 3) := by decide +kernel
theorem dX2_changeShift_114 : decode cX2_changeShift 114 = .ok (.aload_n 0, 1) := by decide +kernel
theorem dX2_changeShift_115 : decode cX2_changeShift 115 = .ok (.getfield 32, 3) := by decide +kernel
theorem dX2_changeShift_118 : decode cX2_changeShift 118 = .ok (.iconst 3, 1) := by decide +kernel
theorem dX2_changeShift_119 : decode cX2_changeShift 119 = .ok (.iload_n 2, 1) := by decide +kernel
theorem dX2_changeShift_120 : decode cX2_changeShift 120 = .ok (.iload_n 1, 1) := by decide +kernel
theorem dX2_changeShift_121 : decode cX2_changeShift 121 = .ok (.invokevirtual 191, 3) := by decide +kernel
theorem dX2_changeShift_124 : decode cX2_changeShift 124 = .ok (.return_, 1) := by decide +kernel
theorem dX2_reasonAgainst_0 : decode cX2_reasonAgainst 0 = .ok (.aload_n 0, 1) := by decide +kernel
theorem dX2_reasonAgainst_1 : decode cX2_reasonAgainst 1 = .ok (.getfield 43, 3) := by decide +kernel
theorem dX2_reasonAgainst_4 : decode cX2_reasonAgainst 4 = .ok (.iconst (-1), 1) := by decide +kernel
theorem dX2_reasonAgainst_5 : decode cX2_reasonAgainst 5 = .ok (.if_icmp .ne 5, 3) := by decide +kernel
theorem dX2_reasonAgainst_8 : decode cX2_reasonAgainst 8 = .ok (.iconst 1, 1) := by decide +kernel
theorem dX2_reasonAgainst_9 : decode cX2_reasonAgainst 9 = .ok (.ireturn, 1) := by decide +kernel
theorem dX2_reasonAgainst_10 : decode cX2_reasonAgainst 10 = .ok (.aload_n 0, 1) := by decide +kernel
theorem dX2_reasonAgainst_11 : decode cX2_reasonAgainst 11 = .ok (.getfield 11, 3) := by decide +kernel
theorem dX2_reasonAgainst_14 : decode cX2_reasonAgainst 14 = .ok (.iload_n 1, 1) := by decide +kernel
theorem dX2_reasonAgainst_15 : decode cX2_reasonAgainst 15 = .ok (.aaload, 1) := by decide +kernel
theorem dX2_reasonAgainst_16 : decode cX2_reasonAgainst 16 = .ok (.getfield 204, 3) := by decide +kernel
theorem dX2_reasonAgainst_19 : decode cX2_reasonAgainst 19 = .ok (.bipush 12, 2) := by decide +kernel
theorem dX2_reasonAgainst_21 : decode cX2_reasonAgainst 21 = .ok (.if_icmp .lt 5, 3) := by decide +kernel
theorem dX2_reasonAgainst_24 : decode cX2_reasonAgainst 24 = .ok (.iconst 2, 1) := by decide +kernel
theorem dX2_reasonAgainst_25 : decode cX2_reasonAgainst 25 = .ok (.ireturn, 1) := by decide +kernel
theorem dX2_reasonAgainst_26 : decode cX2_reasonAgainst 26 = .ok (.iload_n 1, 1) := by decide +kernel
theorem dX2_reasonAgainst_27 : decode cX2_reasonAgainst 27 = .ok (.aload_n 0, 1) := by decide +kernel
theorem dX2_reasonAgainst_28 : decode cX2_reasonAgainst 28 = .ok (.getfield 43, 3) := by decide +kernel
theorem dX2_reasonAgainst_31 : decode cX2_reasonAgainst 31 = .ok (.if_icmp .eq 31, 3) := by decide +kernel
theorem dX2_reasonAgainst_34 : decode cX2_reasonAgainst 34 = .ok (.aload_n 0, 1) := by decide +kernel
theorem dX2_reasonAgainst_35 : decode cX2_reasonAgainst 35 = .ok (.getfield 11, 3) := by decide +kernel
theorem dX2_reasonAgainst_38 : decode cX2_reasonAgainst 38 = .ok (.iload_n 1, 1) := by decide +kernel
theorem dX2_reasonAgainst_39 : decode cX2_reasonAgainst 39 = .ok (.aaload, 1) := by decide +kernel
theorem dX2_reasonAgainst_40 : decode cX2_reasonAgainst 40 = .ok (.getfield 207, 3) := by decide +kernel
theorem dX2_reasonAgainst_43 : decode cX2_reasonAgainst 43 = .ok (.aload_n 0, 1) := by decide +kernel
theorem dX2_reasonAgainst_44 : decode cX2_reasonAgainst 44 = .ok (.getfield 11, 3) := by decide +kernel
theorem dX2_reasonAgainst_47 : decode cX2_reasonAgainst 47 = .ok (.aload_n 0, 1) := by decide +kernel
theorem dX2_reasonAgainst_48 : decode cX2_reasonAgainst 48 = .ok (.getfield 43, 3) := by decide +kernel
theorem dX2_reasonAgainst_51 : decode cX2_reasonAgainst 51 = .ok (.aaload, 1) := by decide +kernel
theorem dX2_reasonAgainst_52 : decode cX2_reasonAgainst 52 = .ok (.getfield 207, 3) := by decide +kernel
theorem dX2_reasonAgainst_55 : decode cX2_reasonAgainst 55 = .ok (.if_icmp .ne 7, 3) := by decide +kernel
theorem dX2_reasonAgainst_58 : decode cX2_reasonAgainst 58 = .ok (.iconst 3, 1) := by decide +kernel
theorem dX2_reasonAgainst_59 : decode cX2_reasonAgainst 59 = .ok (.goto 4, 3) := by decide +kernel
theorem dX2_reasonAgainst_62 : decode cX2_reasonAgainst 62 = .ok (.iconst 0, 1) := by decide +kernel
theorem dX2_reasonAgainst_63 : decode cX2_reasonAgainst 63 = .ok (.ireturn, 1) := by decide +kernel
theorem dX2_swearIn_0 : decode cX2_swearIn 0 = .ok (.aload_n 0, 1) := by decide +kernel
theorem dX2_swearIn_1 : decode cX2_swearIn 1 = .ok (.iload_n 1, 1) := by decide +kernel
theorem dX2_swearIn_2 : decode cX2_swearIn 2 = .ok (.putfield 43, 3) := by decide +kernel
theorem dX2_swearIn_5 : decode cX2_swearIn 5 = .ok (.aload_n 0, 1) := by decide +kernel
theorem dX2_swearIn_6 : decode cX2_swearIn 6 = .ok (.getfield 11, 3) := by decide +kernel
theorem dX2_swearIn_9 : decode cX2_swearIn 9 = .ok (.iload_n 1, 1) := by decide +kernel
theorem dX2_swearIn_10 : decode cX2_swearIn 10 = .ok (.aaload, 1) := by decide +kernel
theorem dX2_swearIn_11 : decode cX2_swearIn 11 = .ok (.dup, 1) := by decide +kernel
theorem dX2_swearIn_12 : decode cX2_swearIn 12 = .ok (.getfield 210, 3) := by decide +kernel
theorem dX2_swearIn_15 : decode cX2_swearIn 15 = .ok (.iconst 1, 1) := by decide +kernel
theorem dX2_swearIn_16 : decode cX2_swearIn 16 = .ok (.iadd, 1) := by decide +kernel
theorem dX2_swearIn_17 : decode cX2_swearIn 17 = .ok (.putfield 210, 3) := by decide +kernel
theorem dX2_swearIn_20 : decode cX2_swearIn 20 = .ok (.aload_n 0, 1) := by decide +kernel
theorem dX2_swearIn_21 : decode cX2_swearIn 21 = .ok (.getfield 39, 3) := by decide +kernel
theorem dX2_swearIn_24 : decode cX2_swearIn 24 = .ok (.dup, 1) := by decide +kernel
theorem dX2_swearIn_25 : decode cX2_swearIn 25 = .ok (.getfield 213, 3) := by decide +kernel
theorem dX2_swearIn_28 : decode cX2_swearIn 28 = .ok (.iconst 1, 1) := by decide +kernel
theorem dX2_swearIn_29 : decode cX2_swearIn 29 = .ok (.iadd, 1) := by decide +kernel
theorem dX2_swearIn_30 : decode cX2_swearIn 30 = .ok (.putfield 213, 3) := by decide +kernel
theorem dX2_swearIn_33 : decode cX2_swearIn 33 = .ok (.return_, 1) := by decide +kernel
theorem dX2_greetDawn_0 : decode cX2_greetDawn 0 = .ok (.iconst 0, 1) := by decide +kernel
theorem dX2_greetDawn_1 : decode cX2_greetDawn 1 = .ok (.istore_n 1, 1) := by decide +kernel
theorem dX2_greetDawn_2 : decode cX2_greetDawn 2 = .ok (.iload_n 1, 1) := by decide +kernel
theorem dX2_greetDawn_3 : decode cX2_greetDawn 3 = .ok (.aload_n 0, 1) := by decide +kernel
theorem dX2_greetDawn_4 : decode cX2_greetDawn 4 = .ok (.getfield 50, 3) := by decide +kernel
theorem dX2_greetDawn_7 : decode cX2_greetDawn 7 = .ok (.if_icmp .ge 22, 3) := by decide +kernel
theorem dX2_greetDawn_10 : decode cX2_greetDawn 10 = .ok (.aload_n 0, 1) := by decide +kernel
theorem dX2_greetDawn_11 : decode cX2_greetDawn 11 = .ok (.getfield 11, 3) := by decide +kernel
theorem dX2_greetDawn_14 : decode cX2_greetDawn 14 = .ok (.iload_n 1, 1) := by decide +kernel
theorem dX2_greetDawn_15 : decode cX2_greetDawn 15 = .ok (.aaload, 1) := by decide +kernel
theorem dX2_greetDawn_16 : decode cX2_greetDawn 16 = .ok (.aload_n 0, 1) := by decide +kernel
theorem dX2_greetDawn_17 : decode cX2_greetDawn 17 = .ok (.getfield 65, 3) := by decide +kernel
theorem dX2_greetDawn_20 : decode cX2_greetDawn 20 = .ok (.invokevirtual 195, 3) := by decide +kernel
theorem dX2_greetDawn_23 : decode cX2_greetDawn 23 = .ok (.iinc 1 1, 3) := by decide +kernel
theorem dX2_greetDawn_26 : decode cX2_greetDawn 26 = .ok (.goto (-24), 3) := by decide +kernel
theorem dX2_greetDawn_29 : decode cX2_greetDawn 29 = .ok (.aload_n 0, 1) := by decide +kernel
theorem dX2_greetDawn_30 : decode cX2_greetDawn 30 = .ok (.getfield 25, 3) := by decide +kernel
theorem dX2_greetDawn_33 : decode cX2_greetDawn 33 = .ok (.aload_n 0, 1) := by decide +kernel
theorem dX2_greetDawn_34 : decode cX2_greetDawn 34 = .ok (.getfield 59, 3) := by decide +kernel
theorem dX2_greetDawn_37 : decode cX2_greetDawn 37 = .ok (.aaload, 1) := by decide +kernel
theorem dX2_greetDawn_38 : decode cX2_greetDawn 38 = .ok (.getfield 107, 3) := by decide +kernel
theorem dX2_greetDawn_41 : decode cX2_greetDawn 41 = .ok (.istore_n 1, 1) := by decide +kernel
theorem dX2_greetDawn_42 : decode cX2_greetDawn 42 = .ok (.aload_n 0, 1) := by decide +kernel
theorem dX2_greetDawn_43 : decode cX2_greetDawn 43 = .ok (.getfield 43, 3) := by decide +kernel
theorem dX2_greetDawn_46 : decode cX2_greetDawn 46 = .ok (.iconst (-1), 1) := by decide +kernel
theorem dX2_greetDawn_47 : decode cX2_greetDawn 47 = .ok (.if_icmp .ne 38, 3) := by decide +kernel
theorem dX2_greetDawn_50 : decode cX2_greetDawn 50 = .ok (.aload_n 0, 1) := by decide +kernel
theorem dX2_greetDawn_51 : decode cX2_greetDawn 51 = .ok (.getfield 11, 3) := by decide +kernel
theorem dX2_greetDawn_54 : decode cX2_greetDawn 54 = .ok (.iload_n 1, 1) := by decide +kernel
theorem dX2_greetDawn_55 : decode cX2_greetDawn 55 = .ok (.aaload, 1) := by decide +kernel
theorem dX2_greetDawn_56 : decode cX2_greetDawn 56 = .ok (.getfield 204, 3) := by decide +kernel
theorem dX2_greetDawn_59 : decode cX2_greetDawn 59 = .ok (.bipush 12, 2) := by decide +kernel
theorem dX2_greetDawn_61 : decode cX2_greetDawn 61 = .ok (.if_icmp .ge 24, 3) := by decide +kernel
theorem dX2_greetDawn_64 : decode cX2_greetDawn 64 = .ok (.aload_n 0, 1) := by decide +kernel
theorem dX2_greetDawn_65 : decode cX2_greetDawn 65 = .ok (.iload_n 1, 1) := by decide +kernel
theorem dX2_greetDawn_66 : decode cX2_greetDawn 66 = .ok (.invokevirtual 110, 3) := by decide +kernel
theorem dX2_greetDawn_69 : decode cX2_greetDawn 69 = .ok (.aload_n 0, 1) := by decide +kernel
theorem dX2_greetDawn_70 : decode cX2_greetDawn 70 = .ok (.getfield 32, 3) := by decide +kernel
theorem dX2_greetDawn_73 : decode cX2_greetDawn 73 = .ok (.iconst 4, 1) := by decide +kernel
theorem dX2_greetDawn_74 : decode cX2_greetDawn 74 = .ok (.iload_n 1, 1) := by decide +kernel
theorem dX2_greetDawn_75 : decode cX2_greetDawn 75 = .ok (.aload_n 0, 1) := by decide +kernel
theorem dX2_greetDawn_76 : decode cX2_greetDawn 76 = .ok (.getfield 68, 3) := by decide +kernel
theorem dX2_greetDawn_79 : decode cX2_greetDawn 79 = .ok (.invokevirtual 191, 3) := by decide +kernel
theorem dX2_greetDawn_82 : decode cX2_greetDawn 82 = .ok (.goto 16, 3) := by decide +kernel
theorem dX2_greetDawn_85 : decode cX2_greetDawn 85 = .ok (.aload_n 0, 1) := by decide +kernel
theorem dX2_greetDawn_86 : decode cX2_greetDawn 86 = .ok (.getfield 32, 3) := by decide +kernel
theorem dX2_greetDawn_89 : decode cX2_greetDawn 89 = .ok (.iconst 4, 1) := by decide +kernel
theorem dX2_greetDawn_90 : decode cX2_greetDawn 90 = .ok (.iconst (-1), 1) := by decide +kernel
theorem dX2_greetDawn_91 : decode cX2_greetDawn 91 = .ok (.aload_n 0, 1) := by decide +kernel
theorem dX2_greetDawn_92 : decode cX2_greetDawn 92 = .ok (.getfield 68, 3) := by decide +kernel
theorem dX2_greetDawn_95 : decode cX2_greetDawn 95 = .ok (.invokevirtual 191, 3) := by decide +kernel
theorem dX2_greetDawn_98 : decode cX2_greetDawn 98 = .ok (.return_, 1) := by decide +kernel
theorem dX2_openFlaps_0 : decode cX2_openFlaps 0 = .ok (.iconst 0, 1) := by decide +kernel
theorem dX2_openFlaps_1 : decode cX2_openFlaps 1 = .ok (.istore_n 1, 1) := by decide +kernel
theorem dX2_openFlaps_2 : decode cX2_openFlaps 2 = .ok (.iconst 0, 1) := by decide +kernel
theorem dX2_openFlaps_3 : decode cX2_openFlaps 3 = .ok (.istore_n 2, 1) := by decide +kernel
theorem dX2_openFlaps_4 : decode cX2_openFlaps 4 = .ok (.iload_n 2, 1) := by decide +kernel
theorem dX2_openFlaps_5 : decode cX2_openFlaps 5 = .ok (.aload_n 0, 1) := by decide +kernel
theorem dX2_openFlaps_6 : decode cX2_openFlaps 6 = .ok (.getfield 53, 3) := by decide +kernel
theorem dX2_openFlaps_9 : decode cX2_openFlaps 9 = .ok (.if_icmp .ge 24, 3) := by decide +kernel
theorem dX2_openFlaps_12 : decode cX2_openFlaps 12 = .ok (.aload_n 0, 1) := by decide +kernel
theorem dX2_openFlaps_13 : decode cX2_openFlaps 13 = .ok (.getfield 19, 3) := by decide +kernel
theorem dX2_openFlaps_16 : decode cX2_openFlaps 16 = .ok (.iload_n 2, 1) := by decide +kernel
theorem dX2_openFlaps_17 : decode cX2_openFlaps 17 = .ok (.aaload, 1) := by decide +kernel
theorem dX2_openFlaps_18 : decode cX2_openFlaps 18 = .ok (.getfield 114, 3) := by decide +kernel
theorem dX2_openFlaps_21 : decode cX2_openFlaps 21 = .ok (.ifCond .eq 6, 3) := by decide +kernel
theorem dX2_openFlaps_24 : decode cX2_openFlaps 24 = .ok (.iinc 1 1, 3) := by decide +kernel
theorem dX2_openFlaps_27 : decode cX2_openFlaps 27 = .ok (.iinc 2 1, 3) := by decide +kernel
theorem dX2_openFlaps_30 : decode cX2_openFlaps 30 = .ok (.goto (-26), 3) := by decide +kernel
theorem dX2_openFlaps_33 : decode cX2_openFlaps 33 = .ok (.iload_n 1, 1) := by decide +kernel
theorem dX2_openFlaps_34 : decode cX2_openFlaps 34 = .ok (.ireturn, 1) := by decide +kernel
theorem dX2_miceOfAll_0 : decode cX2_miceOfAll 0 = .ok (.iconst 0, 1) := by decide +kernel
theorem dX2_miceOfAll_1 : decode cX2_miceOfAll 1 = .ok (.istore_n 1, 1) := by decide +kernel
theorem dX2_miceOfAll_2 : decode cX2_miceOfAll 2 = .ok (.iconst 0, 1) := by decide +kernel
theorem dX2_miceOfAll_3 : decode cX2_miceOfAll 3 = .ok (.istore_n 2, 1) := by decide +kernel
theorem dX2_miceOfAll_4 : decode cX2_miceOfAll 4 = .ok (.iload_n 2, 1) := by decide +kernel
theorem dX2_miceOfAll_5 : decode cX2_miceOfAll 5 = .ok (.aload_n 0, 1) := by decide +kernel
theorem dX2_miceOfAll_6 : decode cX2_miceOfAll 6 = .ok (.getfield 53, 3) := by decide +kernel
theorem dX2_miceOfAll_9 : decode cX2_miceOfAll 9 = .ok (.if_icmp .ge 21, 3) := by decide +kernel
theorem dX2_miceOfAll_12 : decode cX2_miceOfAll 12 = .ok (.iload_n 1, 1) := by decide +kernel
theorem dX2_miceOfAll_13 : decode cX2_miceOfAll 13 = .ok (.aload_n 0, 1) := by decide +kernel
theorem dX2_miceOfAll_14 : decode cX2_miceOfAll 14 = .ok (.getfield 19, 3) := by decide +kernel
theorem dX2_miceOfAll_17 : decode cX2_miceOfAll 17 = .ok (.iload_n 2, 1) := by decide +kernel
theorem dX2_miceOfAll_18 : decode cX2_miceOfAll 18 = .ok (.aaload, 1) := by decide +kernel
theorem dX2_miceOfAll_19 : decode cX2_miceOfAll 19 = .ok (.getfield 118, 3) := by decide +kernel
theorem dX2_miceOfAll_22 : decode cX2_miceOfAll 22 = .ok (.iadd, 1) := by decide +kernel
theorem dX2_miceOfAll_23 : decode cX2_miceOfAll 23 = .ok (.istore_n 1, 1) := by decide +kernel
theorem dX2_miceOfAll_24 : decode cX2_miceOfAll 24 = .ok (.iinc 2 1, 3) := by decide +kernel
theorem dX2_miceOfAll_27 : decode cX2_miceOfAll 27 = .ok (.goto (-23), 3) := by decide +kernel
theorem dX2_miceOfAll_30 : decode cX2_miceOfAll 30 = .ok (.iload_n 1, 1) := by decide +kernel
theorem dX2_miceOfAll_31 : decode cX2_miceOfAll 31 = .ok (.ireturn, 1) := by decide +kernel
theorem dX2_miceOfAllBackwards_0 : decode cX2_miceOfAllBackwards 0 = .ok (.iconst 0, 1) := by decide +kernel
theorem dX2_miceOfAllBackwards_1 : decode cX2_miceOfAllBackwards 1 = .ok (.istore_n 1, 1) := by decide +kernel
theorem dX2_miceOfAllBackwards_2 : decode cX2_miceOfAllBackwards 2 = .ok (.aload_n 0, 1) := by decide +kernel
theorem dX2_miceOfAllBackwards_3 : decode cX2_miceOfAllBackwards 3 = .ok (.getfield 53, 3) := by decide +kernel
theorem dX2_miceOfAllBackwards_6 : decode cX2_miceOfAllBackwards 6 = .ok (.iconst 1, 1) := by decide +kernel
theorem dX2_miceOfAllBackwards_7 : decode cX2_miceOfAllBackwards 7 = .ok (.isub, 1) := by decide +kernel
theorem dX2_miceOfAllBackwards_8 : decode cX2_miceOfAllBackwards 8 = .ok (.istore_n 2, 1) := by decide +kernel
theorem dX2_miceOfAllBackwards_9 : decode cX2_miceOfAllBackwards 9 = .ok (.iload_n 2, 1) := by decide +kernel
theorem dX2_miceOfAllBackwards_10 : decode cX2_miceOfAllBackwards 10 = .ok (.ifCond .lt 21, 3) := by decide +kernel
theorem dX2_miceOfAllBackwards_13 : decode cX2_miceOfAllBackwards 13 = .ok (.iload_n 1, 1) := by decide +kernel
theorem dX2_miceOfAllBackwards_14 : decode cX2_miceOfAllBackwards 14 = .ok (.aload_n 0, 1) := by decide +kernel
theorem dX2_miceOfAllBackwards_15 : decode cX2_miceOfAllBackwards 15 = .ok (.getfield 19, 3) := by decide +kernel
theorem dX2_miceOfAllBackwards_18 : decode cX2_miceOfAllBackwards 18 = .ok (.iload_n 2, 1) := by decide +kernel
theorem dX2_miceOfAllBackwards_19 : decode cX2_miceOfAllBackwards 19 = .ok (.aaload, 1) := by decide +kernel
theorem dX2_miceOfAllBackwards_20 : decode cX2_miceOfAllBackwards 20 = .ok (.getfield 118, 3) := by decide +kernel
theorem dX2_miceOfAllBackwards_23 : decode cX2_miceOfAllBackwards 23 = .ok (.iadd, 1) := by decide +kernel
theorem dX2_miceOfAllBackwards_24 : decode cX2_miceOfAllBackwards 24 = .ok (.istore_n 1, 1) := by decide +kernel
theorem dX2_miceOfAllBackwards_25 : decode cX2_miceOfAllBackwards 25 = .ok (.iinc 2 (-1), 3) := by decide +kernel
theorem dX2_miceOfAllBackwards_28 : decode cX2_miceOfAllBackwards 28 = .ok (.goto (-19), 3) := by decide +kernel
theorem dX2_miceOfAllBackwards_31 : decode cX2_miceOfAllBackwards 31 = .ok (.iload_n 1, 1) := by decide +kernel
theorem dX2_miceOfAllBackwards_32 : decode cX2_miceOfAllBackwards 32 = .ok (.ireturn, 1) := by decide +kernel
theorem dX2_grainOfAll_0 : decode cX2_grainOfAll 0 = .ok (.iconst 0, 1) := by decide +kernel
theorem dX2_grainOfAll_1 : decode cX2_grainOfAll 1 = .ok (.istore_n 1, 1) := by decide +kernel
theorem dX2_grainOfAll_2 : decode cX2_grainOfAll 2 = .ok (.iconst 0, 1) := by decide +kernel
theorem dX2_grainOfAll_3 : decode cX2_grainOfAll 3 = .ok (.istore_n 2, 1) := by decide +kernel
theorem dX2_grainOfAll_4 : decode cX2_grainOfAll 4 = .ok (.iload_n 2, 1) := by decide +kernel
theorem dX2_grainOfAll_5 : decode cX2_grainOfAll 5 = .ok (.aload_n 0, 1) := by decide +kernel
theorem dX2_grainOfAll_6 : decode cX2_grainOfAll 6 = .ok (.getfield 53, 3) := by decide +kernel
theorem dX2_grainOfAll_9 : decode cX2_grainOfAll 9 = .ok (.if_icmp .ge 21, 3) := by decide +kernel
theorem dX2_grainOfAll_12 : decode cX2_grainOfAll 12 = .ok (.iload_n 1, 1) := by decide +kernel
theorem dX2_grainOfAll_13 : decode cX2_grainOfAll 13 = .ok (.aload_n 0, 1) := by decide +kernel
theorem dX2_grainOfAll_14 : decode cX2_grainOfAll 14 = .ok (.getfield 19, 3) := by decide +kernel
theorem dX2_grainOfAll_17 : decode cX2_grainOfAll 17 = .ok (.iload_n 2, 1) := by decide +kernel
theorem dX2_grainOfAll_18 : decode cX2_grainOfAll 18 = .ok (.aaload, 1) := by decide +kernel
theorem dX2_grainOfAll_19 : decode cX2_grainOfAll 19 = .ok (.getfield 121, 3) := by decide +kernel
theorem dX2_grainOfAll_22 : decode cX2_grainOfAll 22 = .ok (.iadd, 1) := by decide +kernel
theorem dX2_grainOfAll_23 : decode cX2_grainOfAll 23 = .ok (.istore_n 1, 1) := by decide +kernel
theorem dX2_grainOfAll_24 : decode cX2_grainOfAll 24 = .ok (.iinc 2 1, 3) := by decide +kernel
theorem dX2_grainOfAll_27 : decode cX2_grainOfAll 27 = .ok (.goto (-23), 3) := by decide +kernel
theorem dX2_grainOfAll_30 : decode cX2_grainOfAll 30 = .ok (.iload_n 1, 1) := by decide +kernel
theorem dX2_grainOfAll_31 : decode cX2_grainOfAll 31 = .ok (.ireturn, 1) := by decide +kernel
theorem dX2_miceAddUp_0 : decode cX2_miceAddUp 0 = .ok (.aload_n 0, 1) := by decide +kernel
theorem dX2_miceAddUp_1 : decode cX2_miceAddUp 1 = .ok (.getfield 39, 3) := by decide +kernel
theorem dX2_miceAddUp_4 : decode cX2_miceAddUp 4 = .ok (.getfield 95, 3) := by decide +kernel
theorem dX2_miceAddUp_7 : decode cX2_miceAddUp 7 = .ok (.aload_n 0, 1) := by decide +kernel
theorem dX2_miceAddUp_8 : decode cX2_miceAddUp 8 = .ok (.getfield 39, 3) := by decide +kernel
theorem dX2_miceAddUp_11 : decode cX2_miceAddUp 11 = .ok (.getfield 178, 3) := by decide +kernel
theorem dX2_miceAddUp_14 : decode cX2_miceAddUp 14 = .ok (.iadd, 1) := by decide +kernel
theorem dX2_miceAddUp_15 : decode cX2_miceAddUp 15 = .ok (.aload_n 0, 1) := by decide +kernel
theorem dX2_miceAddUp_16 : decode cX2_miceAddUp 16 = .ok (.getfield 39, 3) := by decide +kernel
theorem dX2_miceAddUp_19 : decode cX2_miceAddUp 19 = .ok (.getfield 131, 3) := by decide +kernel
theorem dX2_miceAddUp_22 : decode cX2_miceAddUp 22 = .ok (.isub, 1) := by decide +kernel
theorem dX2_miceAddUp_23 : decode cX2_miceAddUp 23 = .ok (.aload_n 0, 1) := by decide +kernel
theorem dX2_miceAddUp_24 : decode cX2_miceAddUp 24 = .ok (.getfield 39, 3) := by decide +kernel
theorem dX2_miceAddUp_27 : decode cX2_miceAddUp 27 = .ok (.getfield 175, 3) := by decide +kernel
theorem dX2_miceAddUp_30 : decode cX2_miceAddUp 30 = .ok (.isub, 1) := by decide +kernel
theorem dX2_miceAddUp_31 : decode cX2_miceAddUp 31 = .ok (.istore_n 1, 1) := by decide +kernel
theorem dX2_miceAddUp_32 : decode cX2_miceAddUp 32 = .ok (.aload_n 0, 1) := by decide +kernel
theorem dX2_miceAddUp_33 : decode cX2_miceAddUp 33 = .ok (.invokevirtual 91, 3) := by decide +kernel
theorem dX2_miceAddUp_36 : decode cX2_miceAddUp 36 = .ok (.iload_n 1, 1) := by decide +kernel
theorem dX2_miceAddUp_37 : decode cX2_miceAddUp 37 = .ok (.if_icmp .ne 15, 3) := by decide +kernel
theorem dX2_miceAddUp_40 : decode cX2_miceAddUp 40 = .ok (.aload_n 0, 1) := by decide +kernel
theorem dX2_miceAddUp_41 : decode cX2_miceAddUp 41 = .ok (.invokevirtual 214, 3) := by decide +kernel
theorem dX2_miceAddUp_44 : decode cX2_miceAddUp 44 = .ok (.iload_n 1, 1) := by decide +kernel
theorem dX2_miceAddUp_45 : decode cX2_miceAddUp 45 = .ok (.if_icmp .ne 7, 3) := by decide +kernel
theorem dX2_miceAddUp_48 : decode cX2_miceAddUp 48 = .ok (.iconst 1, 1) := by decide +kernel
theorem dX2_miceAddUp_49 : decode cX2_miceAddUp 49 = .ok (.goto 4, 3) := by decide +kernel
theorem dX2_miceAddUp_52 : decode cX2_miceAddUp 52 = .ok (.iconst 0, 1) := by decide +kernel
theorem dX2_miceAddUp_53 : decode cX2_miceAddUp 53 = .ok (.ireturn, 1) := by decide +kernel
theorem dX2_grainAddsUp_0 : decode cX2_grainAddsUp 0 = .ok (.iconst 0, 1) := by decide +kernel
theorem dX2_grainAddsUp_1 : decode cX2_grainAddsUp 1 = .ok (.istore_n 1, 1) := by decide +kernel
theorem dX2_grainAddsUp_2 : decode cX2_grainAddsUp 2 = .ok (.iconst 0, 1) := by decide +kernel
theorem dX2_grainAddsUp_3 : decode cX2_grainAddsUp 3 = .ok (.istore_n 2, 1) := by decide +kernel
theorem dX2_grainAddsUp_4 : decode cX2_grainAddsUp 4 = .ok (.iload_n 2, 1) := by decide +kernel
theorem dX2_grainAddsUp_5 : decode cX2_grainAddsUp 5 = .ok (.aload_n 0, 1) := by decide +kernel
theorem dX2_grainAddsUp_6 : decode cX2_grainAddsUp 6 = .ok (.getfield 53, 3) := by decide +kernel
theorem dX2_grainAddsUp_9 : decode cX2_grainAddsUp 9 = .ok (.if_icmp .ge 21, 3) := by decide +kernel
theorem dX2_grainAddsUp_12 : decode cX2_grainAddsUp 12 = .ok (.iload_n 1, 1) := by decide +kernel
theorem dX2_grainAddsUp_13 : decode cX2_grainAddsUp 13 = .ok (.aload_n 0, 1) := by decide +kernel
theorem dX2_grainAddsUp_14 : decode cX2_grainAddsUp 14 = .ok (.getfield 19, 3) := by decide +kernel
theorem dX2_grainAddsUp_17 : decode cX2_grainAddsUp 17 = .ok (.iload_n 2, 1) := by decide +kernel
theorem dX2_grainAddsUp_18 : decode cX2_grainAddsUp 18 = .ok (.aaload, 1) := by decide +kernel
theorem dX2_grainAddsUp_19 : decode cX2_grainAddsUp 19 = .ok (.getfield 161, 3) := by decide +kernel
theorem dX2_grainAddsUp_22 : decode cX2_grainAddsUp 22 = .ok (.iadd, 1) := by decide +kernel
theorem dX2_grainAddsUp_23 : decode cX2_grainAddsUp 23 = .ok (.istore_n 1, 1) := by decide +kernel
theorem dX2_grainAddsUp_24 : decode cX2_grainAddsUp 24 = .ok (.iinc 2 1, 3) := by decide +kernel
theorem dX2_grainAddsUp_27 : decode cX2_grainAddsUp 27 = .ok (.goto (-23), 3) := by decide +kernel
theorem dX2_grainAddsUp_30 : decode cX2_grainAddsUp 30 = .ok (.iload_n 1, 1) := by decide +kernel
theorem dX2_grainAddsUp_31 : decode cX2_grainAddsUp 31 = .ok (.aload_n 0, 1) := by decide +kernel
theorem dX2_grainAddsUp_32 : decode cX2_grainAddsUp 32 = .ok (.getfield 39, 3) := by decide +kernel
theorem dX2_grainAddsUp_35 : decode cX2_grainAddsUp 35 = .ok (.getfield 164, 3) := by decide +kernel
theorem dX2_grainAddsUp_38 : decode cX2_grainAddsUp 38 = .ok (.if_icmp .ne 29, 3) := by decide +kernel
theorem dX2_grainAddsUp_41 : decode cX2_grainAddsUp 41 = .ok (.aload_n 0, 1) := by decide +kernel
theorem dX2_grainAddsUp_42 : decode cX2_grainAddsUp 42 = .ok (.invokevirtual 98, 3) := by decide +kernel
theorem dX2_grainAddsUp_45 : decode cX2_grainAddsUp 45 = .ok (.aload_n 0, 1) := by decide +kernel
theorem dX2_grainAddsUp_46 : decode cX2_grainAddsUp 46 = .ok (.getfield 39, 3) := by decide +kernel
theorem dX2_grainAddsUp_49 : decode cX2_grainAddsUp 49 = .ok (.getfield 101, 3) := by decide +kernel
theorem dX2_grainAddsUp_52 : decode cX2_grainAddsUp 52 = .ok (.aload_n 0, 1) := by decide +kernel
theorem dX2_grainAddsUp_53 : decode cX2_grainAddsUp 53 = .ok (.getfield 39, 3) := by decide +kernel
theorem dX2_grainAddsUp_56 : decode cX2_grainAddsUp 56 = .ok (.getfield 164, 3) := by decide +kernel
theorem dX2_grainAddsUp_59 : decode cX2_grainAddsUp 59 = .ok (.isub, 1) := by decide +kernel
theorem dX2_grainAddsUp_60 : decode cX2_grainAddsUp 60 = .ok (.if_icmp .ne 7, 3) := by decide +kernel
theorem dX2_grainAddsUp_63 : decode cX2_grainAddsUp 63 = .ok (.iconst 1, 1) := by decide +kernel
theorem dX2_grainAddsUp_64 : decode cX2_grainAddsUp 64 = .ok (.goto 4, 3) := by decide +kernel
theorem dX2_grainAddsUp_67 : decode cX2_grainAddsUp 67 = .ok (.iconst 0, 1) := by decide +kernel
theorem dX2_grainAddsUp_68 : decode cX2_grainAddsUp 68 = .ok (.ireturn, 1) := by decide +kernel
theorem dX2_catsAddUp_0 : decode cX2_catsAddUp 0 = .ok (.iconst 0, 1) := by decide +kernel
theorem dX2_catsAddUp_1 : decode cX2_catsAddUp 1 = .ok (.istore_n 1, 1) := by decide +kernel
theorem dX2_catsAddUp_2 : decode cX2_catsAddUp 2 = .ok (.iconst 0, 1) := by decide +kernel
theorem dX2_catsAddUp_3 : decode cX2_catsAddUp 3 = .ok (.istore_n 2, 1) := by decide +kernel
theorem dX2_catsAddUp_4 : decode cX2_catsAddUp 4 = .ok (.iconst 0, 1) := by decide +kernel
theorem dX2_catsAddUp_5 : decode cX2_catsAddUp 5 = .ok (.istore_n 3, 1) := by decide +kernel
theorem dX2_catsAddUp_6 : decode cX2_catsAddUp 6 = .ok (.iload_n 3, 1) := by decide +kernel
theorem dX2_catsAddUp_7 : decode cX2_catsAddUp 7 = .ok (.aload_n 0, 1) := by decide +kernel
theorem dX2_catsAddUp_8 : decode cX2_catsAddUp 8 = .ok (.getfield 50, 3) := by decide +kernel
theorem dX2_catsAddUp_11 : decode cX2_catsAddUp 11 = .ok (.if_icmp .ge 33, 3) := by decide +kernel
theorem dX2_catsAddUp_14 : decode cX2_catsAddUp 14 = .ok (.iload_n 1, 1) := by decide +kernel
theorem dX2_catsAddUp_15 : decode cX2_catsAddUp 15 = .ok (.aload_n 0, 1) := by decide +kernel
theorem dX2_catsAddUp_16 : decode cX2_catsAddUp 16 = .ok (.getfield 11, 3) := by decide +kernel
theorem dX2_catsAddUp_19 : decode cX2_catsAddUp 19 = .ok (.iload_n 3, 1) := by decide +kernel
theorem dX2_catsAddUp_20 : decode cX2_catsAddUp 20 = .ok (.aaload, 1) := by decide +kernel
theorem dX2_catsAddUp_21 : decode cX2_catsAddUp 21 = .ok (.getfield 187, 3) := by decide +kernel
theorem dX2_catsAddUp_24 : decode cX2_catsAddUp 24 = .ok (.iadd, 1) := by decide +kernel
theorem dX2_catsAddUp_25 : decode cX2_catsAddUp 25 = .ok (.istore_n 1, 1) := by decide +kernel
theorem dX2_catsAddUp_26 : decode cX2_catsAddUp 26 = .ok (.iload_n 2, 1) := by decide +kernel
theorem dX2_catsAddUp_27 : decode cX2_catsAddUp 27 = .ok (.aload_n 0, 1) := by decide +kernel
theorem dX2_catsAddUp_28 : decode cX2_catsAddUp 28 = .ok (.getfield 11, 3) := by decide +kernel
theorem dX2_catsAddUp_31 : decode cX2_catsAddUp 31 = .ok (.iload_n 3, 1) := by decide +kernel
theorem dX2_catsAddUp_32 : decode cX2_catsAddUp 32 = .ok (.aaload, 1) := by decide +kernel
theorem dX2_catsAddUp_33 : decode cX2_catsAddUp 33 = .ok (.getfield 210, 3) := by decide +kernel
theorem dX2_catsAddUp_36 : decode cX2_catsAddUp 36 = .ok (.iadd, 1) := by decide +kernel
theorem dX2_catsAddUp_37 : decode cX2_catsAddUp 37 = .ok (.istore_n 2, 1) := by decide +kernel
theorem dX2_catsAddUp_38 : decode cX2_catsAddUp 38 = .ok (.iinc 3 1, 3) := by decide +kernel
theorem dX2_catsAddUp_41 : decode cX2_catsAddUp 41 = .ok (.goto (-35), 3) := by decide +kernel
theorem dX2_catsAddUp_44 : decode cX2_catsAddUp 44 = .ok (.iload_n 1, 1) := by decide +kernel
theorem dX2_catsAddUp_45 : decode cX2_catsAddUp 45 = .ok (.aload_n 0, 1) := by decide +kernel
theorem dX2_catsAddUp_46 : decode cX2_catsAddUp 46 = .ok (.getfield 39, 3) := by decide +kernel
theorem dX2_catsAddUp_49 : decode cX2_catsAddUp 49 = .ok (.getfield 131, 3) := by decide +kernel
theorem dX2_catsAddUp_52 : decode cX2_catsAddUp 52 = .ok (.if_icmp .ne 18, 3) := by decide +kernel
theorem dX2_catsAddUp_55 : decode cX2_catsAddUp 55 = .ok (.iload_n 2, 1) := by decide +kernel
theorem dX2_catsAddUp_56 : decode cX2_catsAddUp 56 = .ok (.aload_n 0, 1) := by decide +kernel
theorem dX2_catsAddUp_57 : decode cX2_catsAddUp 57 = .ok (.getfield 39, 3) := by decide +kernel
theorem dX2_catsAddUp_60 : decode cX2_catsAddUp 60 = .ok (.getfield 213, 3) := by decide +kernel
theorem dX2_catsAddUp_63 : decode cX2_catsAddUp 63 = .ok (.if_icmp .ne 7, 3) := by decide +kernel
theorem dX2_catsAddUp_66 : decode cX2_catsAddUp 66 = .ok (.iconst 1, 1) := by decide +kernel
theorem dX2_catsAddUp_67 : decode cX2_catsAddUp 67 = .ok (.goto 4, 3) := by decide +kernel
theorem dX2_catsAddUp_70 : decode cX2_catsAddUp 70 = .ok (.iconst 0, 1) := by decide +kernel
theorem dX2_catsAddUp_71 : decode cX2_catsAddUp 71 = .ok (.ireturn, 1) := by decide +kernel
theorem dX2_catNamed_0 : decode cX2_catNamed 0 = .ok (.iconst 0, 1) := by decide +kernel
theorem dX2_catNamed_1 : decode cX2_catNamed 1 = .ok (.istore_n 2, 1) := by decide +kernel
theorem dX2_catNamed_2 : decode cX2_catNamed 2 = .ok (.iload_n 2, 1) := by decide +kernel
theorem dX2_catNamed_3 : decode cX2_catNamed 3 = .ok (.aload_n 0, 1) := by decide +kernel
theorem dX2_catNamed_4 : decode cX2_catNamed 4 = .ok (.getfield 50, 3) := by decide +kernel
theorem dX2_catNamed_7 : decode cX2_catNamed 7 = .ok (.if_icmp .ge 27, 3) := by decide +kernel
theorem dX2_catNamed_10 : decode cX2_catNamed 10 = .ok (.aload_n 1, 1) := by decide +kernel
theorem dX2_catNamed_11 : decode cX2_catNamed 11 = .ok (.aload_n 0, 1) := by decide +kernel
theorem dX2_catNamed_12 : decode cX2_catNamed 12 = .ok (.getfield 11, 3) := by decide +kernel
theorem dX2_catNamed_15 : decode cX2_catNamed 15 = .ok (.iload_n 2, 1) := by decide +kernel
theorem dX2_catNamed_16 : decode cX2_catNamed 16 = .ok (.aaload, 1) := by decide +kernel
theorem dX2_catNamed_17 : decode cX2_catNamed 17 = .ok (.getfield 217, 3) := by decide +kernel
theorem dX2_catNamed_20 : decode cX2_catNamed 20 = .ok (.invokevirtual 221, 3) := by decide +kernel
theorem dX2_catNamed_23 : decode cX2_catNamed 23 = .ok (.ifCond .eq 5, 3) := by decide +kernel
theorem dX2_catNamed_26 : decode cX2_catNamed 26 = .ok (.iload_n 2, 1) := by decide +kernel
theorem dX2_catNamed_27 : decode cX2_catNamed 27 = .ok (.ireturn, 1) := by decide +kernel
theorem dX2_catNamed_28 : decode cX2_catNamed 28 = .ok (.iinc 2 1, 3) := by decide +kernel
theorem dX2_catNamed_31 : decode cX2_catNamed 31 = .ok (.goto (-29), 3) := by decide +kernel
theorem dX2_catNamed_34 : decode cX2_catNamed 34 = .ok (.iconst (-1), 1) := by decide +kernel
theorem dX2_catNamed_35 : decode cX2_catNamed 35 = .ok (.ireturn, 1) := by decide +kernel
theorem dX2_sackNamed_0 : decode cX2_sackNamed 0 = .ok (.iconst 0, 1) := by decide +kernel
theorem dX2_sackNamed_1 : decode cX2_sackNamed 1 = .ok (.istore_n 2, 1) := by decide +kernel
theorem dX2_sackNamed_2 : decode cX2_sackNamed 2 = .ok (.iload_n 2, 1) := by decide +kernel
theorem dX2_sackNamed_3 : decode cX2_sackNamed 3 = .ok (.aload_n 0, 1) := by decide +kernel
theorem dX2_sackNamed_4 : decode cX2_sackNamed 4 = .ok (.getfield 53, 3) := by decide +kernel
theorem dX2_sackNamed_7 : decode cX2_sackNamed 7 = .ok (.if_icmp .ge 27, 3) := by decide +kernel
theorem dX2_sackNamed_10 : decode cX2_sackNamed 10 = .ok (.aload_n 1, 1) := by decide +kernel
theorem dX2_sackNamed_11 : decode cX2_sackNamed 11 = .ok (.aload_n 0, 1) := by decide +kernel
theorem dX2_sackNamed_12 : decode cX2_sackNamed 12 = .ok (.getfield 19, 3) := by decide +kernel
theorem dX2_sackNamed_15 : decode cX2_sackNamed 15 = .ok (.iload_n 2, 1) := by decide +kernel
theorem dX2_sackNamed_16 : decode cX2_sackNamed 16 = .ok (.aaload, 1) := by decide +kernel
theorem dX2_sackNamed_17 : decode cX2_sackNamed 17 = .ok (.getfield 227, 3) := by decide +kernel
theorem dX2_sackNamed_20 : decode cX2_sackNamed 20 = .ok (.invokevirtual 221, 3) := by decide +kernel
theorem dX2_sackNamed_23 : decode cX2_sackNamed 23 = .ok (.ifCond .eq 5, 3) := by decide +kernel
theorem dX2_sackNamed_26 : decode cX2_sackNamed 26 = .ok (.iload_n 2, 1) := by decide +kernel
theorem dX2_sackNamed_27 : decode cX2_sackNamed 27 = .ok (.ireturn, 1) := by decide +kernel
theorem dX2_sackNamed_28 : decode cX2_sackNamed 28 = .ok (.iinc 2 1, 3) := by decide +kernel
theorem dX2_sackNamed_31 : decode cX2_sackNamed 31 = .ok (.goto (-29), 3) := by decide +kernel
theorem dX2_sackNamed_34 : decode cX2_sackNamed 34 = .ok (.iconst (-1), 1) := by decide +kernel
theorem dX2_sackNamed_35 : decode cX2_sackNamed 35 = .ok (.ireturn, 1) := by decide +kernel
theorem dX3_init_0 : decode cX3_init 0 = .ok (.aload_n 0, 1) := by decide +kernel
theorem dX3_init_1 : decode cX3_init 1 = .ok (.invokespecial 3, 3) := by decide +kernel
theorem dX3_init_4 : decode cX3_init 4 = .ok (.aload_n 0, 1) := by decide +kernel
theorem dX3_init_5 : decode cX3_init 5 = .ok (.bipush 100, 2) := by decide +kernel
theorem dX3_init_7 : decode cX3_init 7 = .ok (.newarray .byte, 2) := by decide +kernel
theorem dX3_init_9 : decode cX3_init 9 = .ok (.putfield 9, 3) := by decide +kernel
theorem dX3_init_12 : decode cX3_init 12 = .ok (.return_, 1) := by decide +kernel
theorem dX4_init_0 : decode cX4_init 0 = .ok (.aload_n 0, 1) := by decide +kernel
theorem dX4_init_1 : decode cX4_init 1 = .ok (.invokespecial 1, 3) := by decide +kernel
theorem dX4_init_4 : decode cX4_init 4 = .ok (.aload_n 0, 1) := by decide +kernel
theorem dX4_init_5 : decode cX4_init 5 = .ok (.ldc 7, 2) := by decide +kernel
theorem dX4_init_7 : decode cX4_init 7 = .ok (.putfield 9, 3) := by decide +kernel
theorem dX4_init_10 : decode cX4_init 10 = .ok (.return_, 1) := by decide +kernel
theorem dX4_copyFrom_0 : decode cX4_copyFrom 0 = .ok (.aload_n 0, 1) := by decide +kernel
theorem dX4_copyFrom_1 : decode cX4_copyFrom 1 = .ok (.aload_n 1, 1) := by decide +kernel
theorem dX4_copyFrom_2 : decode cX4_copyFrom 2 = .ok (.getfield 9, 3) := by decide +kernel
theorem dX4_copyFrom_5 : decode cX4_copyFrom 5 = .ok (.putfield 9, 3) := by decide +kernel
theorem dX4_copyFrom_8 : decode cX4_copyFrom 8 = .ok (.aload_n 0, 1) := by decide +kernel
theorem dX4_copyFrom_9 : decode cX4_copyFrom 9 = .ok (.aload_n 1, 1) := by decide +kernel
theorem dX4_copyFrom_10 : decode cX4_copyFrom 10 = .ok (.getfield 15, 3) := by decide +kernel
theorem dX4_copyFrom_13 : decode cX4_copyFrom 13 = .ok (.putfield 15, 3) := by decide +kernel
theorem dX4_copyFrom_16 : decode cX4_copyFrom 16 = .ok (.aload_n 0, 1) := by decide +kernel
theorem dX4_copyFrom_17 : decode cX4_copyFrom 17 = .ok (.aload_n 1, 1) := by decide +kernel
theorem dX4_copyFrom_18 : decode cX4_copyFrom 18 = .ok (.getfield 19, 3) := by decide +kernel
theorem dX4_copyFrom_21 : decode cX4_copyFrom 21 = .ok (.putfield 19, 3) := by decide +kernel
theorem dX4_copyFrom_24 : decode cX4_copyFrom 24 = .ok (.aload_n 0, 1) := by decide +kernel
theorem dX4_copyFrom_25 : decode cX4_copyFrom 25 = .ok (.aload_n 1, 1) := by decide +kernel
theorem dX4_copyFrom_26 : decode cX4_copyFrom 26 = .ok (.getfield 22, 3) := by decide +kernel
theorem dX4_copyFrom_29 : decode cX4_copyFrom 29 = .ok (.putfield 22, 3) := by decide +kernel
theorem dX4_copyFrom_32 : decode cX4_copyFrom 32 = .ok (.aload_n 0, 1) := by decide +kernel
theorem dX4_copyFrom_33 : decode cX4_copyFrom 33 = .ok (.aload_n 1, 1) := by decide +kernel
theorem dX4_copyFrom_34 : decode cX4_copyFrom 34 = .ok (.getfield 26, 3) := by decide +kernel
theorem dX4_copyFrom_37 : decode cX4_copyFrom 37 = .ok (.putfield 26, 3) := by decide +kernel
theorem dX4_copyFrom_40 : decode cX4_copyFrom 40 = .ok (.return_, 1) := by decide +kernel
theorem dX5_init_0 : decode cX5_init 0 = .ok (.aload_n 0, 1) := by decide +kernel
theorem dX5_init_1 : decode cX5_init 1 = .ok (.invokespecial 3, 3) := by decide +kernel
theorem dX5_init_4 : decode cX5_init 4 = .ok (.aload_n 0, 1) := by decide +kernel
theorem dX5_init_5 : decode cX5_init 5 = .ok (.bipush 30, 2) := by decide +kernel
theorem dX5_init_7 : decode cX5_init 7 = .ok (.newarray .int, 2) := by decide +kernel
theorem dX5_init_9 : decode cX5_init 9 = .ok (.putfield 9, 3) := by decide +kernel
theorem dX5_init_12 : decode cX5_init 12 = .ok (.aload_n 0, 1) := by decide +kernel
theorem dX5_init_13 : decode cX5_init 13 = .ok (.bipush 30, 2) := by decide +kernel
theorem dX5_init_15 : decode cX5_init 15 = .ok (.newarray .int, 2) := by decide +kernel
theorem dX5_init_17 : decode cX5_init 17 = .ok (.putfield 15, 3) := by decide +kernel
theorem dX5_init_20 : decode cX5_init 20 = .ok (.aload_n 0, 1) := by decide +kernel
theorem dX5_init_21 : decode cX5_init 21 = .ok (.bipush 30, 2) := by decide +kernel
theorem dX5_init_23 : decode cX5_init 23 = .ok (.newarray .int, 2) := by decide +kernel
theorem dX5_init_25 : decode cX5_init 25 = .ok (.putfield 18, 3) := by decide +kernel
theorem dX5_init_28 : decode cX5_init 28 = .ok (.aload_n 0, 1) := by decide +kernel
theorem dX5_init_29 : decode cX5_init 29 = .ok (.aload_n 1, 1) := by decide +kernel
theorem dX5_init_30 : decode cX5_init 30 = .ok (.putfield 21, 3) := by decide +kernel
theorem dX5_init_33 : decode cX5_init 33 = .ok (.aload_n 0, 1) := by decide +kernel
theorem dX5_init_34 : decode cX5_init 34 = .ok (.aload_n 2, 1) := by decide +kernel
theorem dX5_init_35 : decode cX5_init 35 = .ok (.putfield 25, 3) := by decide +kernel
theorem dX5_init_38 : decode cX5_init 38 = .ok (.return_, 1) := by decide +kernel
theorem dX6_init_0 : decode cX6_init 0 = .ok (.aload_n 0, 1) := by decide +kernel
theorem dX6_init_1 : decode cX6_init 1 = .ok (.invokespecial 3, 3) := by decide +kernel
theorem dX6_init_4 : decode cX6_init 4 = .ok (.aload_n 0, 1) := by decide +kernel
theorem dX6_init_5 : decode cX6_init 5 = .ok (.aload_n 1, 1) := by decide +kernel
theorem dX6_init_6 : decode cX6_init 6 = .ok (.putfield 9, 3) := by decide +kernel
theorem dX6_init_9 : decode cX6_init 9 = .ok (.aload_n 0, 1) := by decide +kernel
theorem dX6_init_10 : decode cX6_init 10 = .ok (.aload_n 2, 1) := by decide +kernel
theorem dX6_init_11 : decode cX6_init 11 = .ok (.putfield 15, 3) := by decide +kernel
theorem dX6_init_14 : decode cX6_init 14 = .ok (.return_, 1) := by decide +kernel
theorem dX6_parse_0 : decode cX6_parse 0 = .ok (.aload_n 0, 1) := by decide +kernel
theorem dX6_parse_1 : decode cX6_parse 1 = .ok (.getfield 9, 3) := by decide +kernel
theorem dX6_parse_4 : decode cX6_parse 4 = .ok (.invokevirtual 19, 3) := by decide +kernel
theorem dX6_parse_7 : decode cX6_parse 7 = .ok (.aload_n 0, 1) := by decide +kernel
theorem dX6_parse_8 : decode cX6_parse 8 = .ok (.getfield 15, 3) := by decide +kernel
theorem dX6_parse_11 : decode cX6_parse 11 = .ok (.invokevirtual 24, 3) := by decide +kernel
theorem dX6_parse_14 : decode cX6_parse 14 = .ok (.iconst 0, 1) := by decide +kernel
theorem dX6_parse_15 : decode cX6_parse 15 = .ok (.istore_n 1, 1) := by decide +kernel
theorem dX6_parse_16 : decode cX6_parse 16 = .ok (.iload_n 1, 1) := by decide +kernel
theorem dX6_parse_17 : decode cX6_parse 17 = .ok (.aload_n 0, 1) := by decide +kernel
theorem dX6_parse_18 : decode cX6_parse 18 = .ok (.getfield 9, 3) := by decide +kernel
theorem dX6_parse_21 : decode cX6_parse 21 = .ok (.getfield 29, 3) := by decide +kernel
theorem dX6_parse_24 : decode cX6_parse 24 = .ok (.if_icmp .gt 28, 3) := by decide +kernel
theorem dX6_parse_27 : decode cX6_parse 27 = .ok (.aload_n 0, 1) := by decide +kernel
theorem dX6_parse_28 : decode cX6_parse 28 = .ok (.getfield 9, 3) := by decide +kernel
theorem dX6_parse_31 : decode cX6_parse 31 = .ok (.invokevirtual 33, 3) := by decide +kernel
theorem dX6_parse_34 : decode cX6_parse 34 = .ok (.ifCond .eq 18, 3) := by decide +kernel
theorem dX6_parse_37 : decode cX6_parse 37 = .ok (.aload_n 0, 1) := by decide +kernel
theorem dX6_parse_38 : decode cX6_parse 38 = .ok (.invokevirtual 37, 3) := by decide +kernel
theorem dX6_parse_41 : decode cX6_parse 41 = .ok (.ifCond .ne 5, 3) := by decide +kernel
theorem dX6_parse_44 : decode cX6_parse 44 = .ok (.iconst 0, 1) := by decide +kernel
theorem dX6_parse_45 : decode cX6_parse 45 = .ok (.ireturn, 1) := by decide +kernel
theorem dX6_parse_46 : decode cX6_parse 46 = .ok (.iinc 1 1, 3) := by decide +kernel
theorem dX6_parse_49 : decode cX6_parse 49 = .ok (.goto (-33), 3) := by decide +kernel
theorem dX6_parse_52 : decode cX6_parse 52 = .ok (.aload_n 0, 1) := by decide +kernel
theorem dX6_parse_53 : decode cX6_parse 53 = .ok (.getfield 15, 3) := by decide +kernel
theorem dX6_parse_56 : decode cX6_parse 56 = .ok (.getfield 40, 3) := by decide +kernel
theorem dX6_parse_59 : decode cX6_parse 59 = .ok (.ifCond .eq 23, 3) := by decide +kernel
theorem dX6_parse_62 : decode cX6_parse 62 = .ok (.aload_n 0, 1) := by decide +kernel
theorem dX6_parse_63 : decode cX6_parse 63 = .ok (.getfield 15, 3) := by decide +kernel
theorem dX6_parse_66 : decode cX6_parse 66 = .ok (.getfield 43, 3) := by decide +kernel
theorem dX6_parse_69 : decode cX6_parse 69 = .ok (.ifCond .eq 13, 3) := by decide +kernel
theorem dX6_parse_72 : decode cX6_parse 72 = .ok (.aload_n 0, 1) := by decide +kernel
theorem dX6_parse_73 : decode cX6_parse 73 = .ok (.getfield 15, 3) := by decide +kernel
theorem dX6_parse_76 : decode cX6_parse 76 = .ok (.getfield 46, 3) := by decide +kernel
theorem dX6_parse_79 : decode cX6_parse 79 = .ok (.ifCond .ne 13, 3) := by decide +kernel
theorem dX6_parse_82 : decode cX6_parse 82 = .ok (.aload_n 0, 1) := by decide +kernel
theorem dX6_parse_83 : decode cX6_parse 83 = .ok (.getfield 9, 3) := by decide +kernel
theorem dX6_parse_86 : decode cX6_parse 86 = .ok (.bipush 6, 2) := by decide +kernel
theorem dX6_parse_88 : decode cX6_parse 88 = .ok (.invokevirtual 49, 3) := by decide +kernel
theorem dX6_parse_91 : decode cX6_parse 91 = .ok (.ireturn, 1) := by decide +kernel
theorem dX6_parse_92 : decode cX6_parse 92 = .ok (.aload_n 0, 1) := by decide +kernel
theorem dX6_parse_93 : decode cX6_parse 93 = .ok (.getfield 15, 3) := by decide +kernel
theorem dX6_parse_96 : decode cX6_parse 96 = .ok (.invokevirtual 53, 3) := by decide +kernel
theorem dX6_parse_99 : decode cX6_parse 99 = .ok (.iconst 1, 1) := by decide +kernel
theorem dX6_parse_100 : decode cX6_parse 100 = .ok (.ireturn, 1) := by decide +kernel
theorem dX6_readStatement_0 : decode cX6_readStatement 0 = .ok (.aload_n 0, 1) := by decide +kernel
theorem dX6_readStatement_1 : decode cX6_readStatement 1 = .ok (.getfield 9, 3) := by decide +kernel
theorem dX6_readStatement_4 : decode cX6_readStatement 4 = .ok (.ldc 54, 2) := by decide +kernel
theorem dX6_readStatement_6 : decode cX6_readStatement 6 = .ok (.invokevirtual 56, 3) := by decide +kernel
theorem dX6_readStatement_9 : decode cX6_readStatement 9 = .ok (.ifCond .eq 8, 3) := by decide +kernel
theorem dX6_readStatement_12 : decode cX6_readStatement 12 = .ok (.aload_n 0, 1) := by decide +kernel
theorem dX6_readStatement_13 : decode cX6_readStatement 13 = .ok (.invokevirtual 60, 3) := by decide +kernel
theorem dX6_readStatement_16 : decode cX6_readStatement 16 = .ok (.ireturn, 1) := by decide +kernel
theorem dX6_readStatement_17 : decode cX6_readStatement 17 = .ok (.aload_n 0, 1) := by decide +kernel
theorem dX6_readStatement_18 : decode cX6_readStatement 18 = .ok (.getfield 9, 3) := by decide +kernel
theorem dX6_readStatement_21 : decode cX6_readStatement 21 = .ok (.ldc 63, 2) := by decide +kernel
theorem dX6_readStatement_23 : decode cX6_readStatement 23 = .ok (.invokevirtual 56, 3) := by decide +kernel
theorem dX6_readStatement_26 : decode cX6_readStatement 26 = .ok (.ifCond .eq 8, 3) := by decide +kernel
theorem dX6_readStatement_29 : decode cX6_readStatement 29 = .ok (.aload_n 0, 1) := by decide +kernel
theorem dX6_readStatement_30 : decode cX6_readStatement 30 = .ok (.invokevirtual 65, 3) := by decide +kernel
theorem dX6_readStatement_33 : decode cX6_readStatement 33 = .ok (.ireturn, 1) := by decide +kernel
theorem dX6_readStatement_34 : decode cX6_readStatement 34 = .ok (.aload_n 0, 1) := by decide +kernel
theorem dX6_readStatement_35 : decode cX6_readStatement 35 = .ok (.getfield 9, 3) := by decide +kernel
theorem dX6_readStatement_38 : decode cX6_readStatement 38 = .ok (.ldc 68, 2) := by decide +kernel
theorem dX6_readStatement_40 : decode cX6_readStatement 40 = .ok (.invokevirtual 56, 3) := by decide +kernel
theorem dX6_readStatement_43 : decode cX6_readStatement 43 = .ok (.ifCond .eq 8, 3) := by decide +kernel
theorem dX6_readStatement_46 : decode cX6_readStatement 46 = .ok (.aload_n 0, 1) := by decide +kernel
theorem dX6_readStatement_47 : decode cX6_readStatement 47 = .ok (.invokevirtual 70, 3) := by decide +kernel
theorem dX6_readStatement_50 : decode cX6_readStatement 50 = .ok (.ireturn, 1) := by decide +kernel
theorem dX6_readStatement_51 : decode cX6_readStatement 51 = .ok (.aload_n 0, 1) := by decide +kernel
theorem dX6_readStatement_52 : decode cX6_readStatement 52 = .ok (.getfield 9, 3) := by decide +kernel
theorem dX6_readStatement_55 : decode cX6_readStatement 55 = .ok (.ldc 73, 2) := by decide +kernel
theorem dX6_readStatement_57 : decode cX6_readStatement 57 = .ok (.invokevirtual 56, 3) := by decide +kernel
theorem dX6_readStatement_60 : decode cX6_readStatement 60 = .ok (.ifCond .eq 8, 3) := by decide +kernel
theorem dX6_readStatement_63 : decode cX6_readStatement 63 = .ok (.aload_n 0, 1) := by decide +kernel
theorem dX6_readStatement_64 : decode cX6_readStatement 64 = .ok (.invokevirtual 75, 3) := by decide +kernel
theorem dX6_readStatement_67 : decode cX6_readStatement 67 = .ok (.ireturn, 1) := by decide +kernel
theorem dX6_readStatement_68 : decode cX6_readStatement 68 = .ok (.aload_n 0, 1) := by decide +kernel
theorem dX6_readStatement_69 : decode cX6_readStatement 69 = .ok (.getfield 9, 3) := by decide +kernel
theorem dX6_readStatement_72 : decode cX6_readStatement 72 = .ok (.ldc 78, 2) := by decide +kernel
theorem dX6_readStatement_74 : decode cX6_readStatement 74 = .ok (.invokevirtual 56, 3) := by decide +kernel
theorem dX6_readStatement_77 : decode cX6_readStatement 77 = .ok (.ifCond .eq 10, 3) := by decide +kernel
theorem dX6_readStatement_80 : decode cX6_readStatement 80 = .ok (.aload_n 0, 1) := by decide +kernel
theorem dX6_readStatement_81 : decode cX6_readStatement 81 = .ok (.invokevirtual 80, 3) := by decide +kernel
theorem dX6_readStatement_84 : decode cX6_readStatement 84 = .ok (.goto 11, 3) := by decide +kernel
theorem dX6_readStatement_87 : decode cX6_readStatement 87 = .ok (.aload_n 0, 1) := by decide +kernel
theorem dX6_readStatement_88 : decode cX6_readStatement 88 = .ok (.getfield 9, 3) := by decide +kernel
theorem dX6_readStatement_91 : decode cX6_readStatement 91 = .ok (.iconst 1, 1) := by decide +kernel
theorem dX6_readStatement_92 : decode cX6_readStatement 92 = .ok (.invokevirtual 49, 3) := by decide +kernel
theorem dX6_readStatement_95 : decode cX6_readStatement 95 = .ok (.ireturn, 1) := by decide +kernel
theorem dX6_readCat_0 : decode cX6_readCat 0 = .ok (.aload_n 0, 1) := by decide +kernel
theorem dX6_readCat_1 : decode cX6_readCat 1 = .ok (.getfield 15, 3) := by decide +kernel
theorem dX6_readCat_4 : decode cX6_readCat 4 = .ok (.getfield 40, 3) := by decide +kernel
theorem dX6_readCat_7 : decode cX6_readCat 7 = .ok (.bipush 8, 2) := by decide +kernel
theorem dX6_readCat_9 : decode cX6_readCat 9 = .ok (.if_icmp .lt 12, 3) := by decide +kernel
theorem dX6_readCat_12 : decode cX6_readCat 12 = .ok (.aload_n 0, 1) := by decide +kernel
theorem dX6_readCat_13 : decode cX6_readCat 13 = .ok (.getfield 9, 3) := by decide +kernel
theorem dX6_readCat_16 : decode cX6_readCat 16 = .ok (.iconst 5, 1) := by decide +kernel
theorem dX6_readCat_17 : decode cX6_readCat 17 = .ok (.invokevirtual 49, 3) := by decide +kernel
theorem dX6_readCat_20 : decode cX6_readCat 20 = .ok (.ireturn, 1) := by decide +kernel
theorem dX6_readCat_21 : decode cX6_readCat 21 = .ok (.aload_n 0, 1) := by decide +kernel
theorem dX6_readCat_22 : decode cX6_readCat 22 = .ok (.getfield 9, 3) := by decide +kernel
theorem dX6_readCat_25 : decode cX6_readCat 25 = .ok (.invokevirtual 83, 3) := by decide +kernel
theorem dX6_readCat_28 : decode cX6_readCat 28 = .ok (.ifCond .ne 5, 3) := by decide +kernel
theorem dX6_readCat_31 : decode cX6_readCat 31 = .ok (.iconst 0, 1) := by decide +kernel
theorem dX6_readCat_32 : decode cX6_readCat 32 = .ok (.ireturn, 1) := by decide +kernel
theorem dX6_readCat_33 : decode cX6_readCat 33 = .ok (.aload_n 0, 1) := by decide +kernel
theorem dX6_readCat_34 : decode cX6_readCat 34 = .ok (.getfield 15, 3) := by decide +kernel
theorem dX6_readCat_37 : decode cX6_readCat 37 = .ok (.aload_n 0, 1) := by decide +kernel
theorem dX6_readCat_38 : decode cX6_readCat 38 = .ok (.getfield 9, 3) := by decide +kernel
theorem dX6_readCat_41 : decode cX6_readCat 41 = .ok (.invokevirtual 86, 3) := by decide +kernel
theorem dX6_readCat_44 : decode cX6_readCat 44 = .ok (.iconst (-1), 1) := by decide +kernel
theorem dX6_readCat_45 : decode cX6_readCat 45 = .ok (.if_icmp .eq 12, 3) := by decide +kernel
theorem dX6_readCat_48 : decode cX6_readCat 48 = .ok (.aload_n 0, 1) := by decide +kernel
theorem dX6_readCat_49 : decode cX6_readCat 49 = .ok (.getfield 9, 3) := by decide +kernel
theorem dX6_readCat_52 : decode cX6_readCat 52 = .ok (.iconst 3, 1) := by decide +kernel
theorem dX6_readCat_53 : decode cX6_readCat 53 = .ok (.invokevirtual 49, 3) := by decide +kernel
theorem dX6_readCat_56 : decode cX6_readCat 56 = .ok (.ireturn, 1) := by decide +kernel
theorem dX6_readCat_57 : decode cX6_readCat 57 = .ok (.aload_n 0, 1) := by decide +kernel
theorem dX6_readCat_58 : decode cX6_readCat 58 = .ok (.getfield 15, 3) := by decide +kernel
theorem dX6_readCat_61 : decode cX6_readCat 61 = .ok (.getfield 90, 3) := by decide +kernel
theorem dX6_readCat_64 : decode cX6_readCat 64 = .ok (.aload_n 0, 1) := by decide +kernel
theorem dX6_readCat_65 : decode cX6_readCat 65 = .ok (.getfield 15, 3) := by decide +kernel
theorem dX6_readCat_68 : decode cX6_readCat 68 = .ok (.getfield 40, 3) := by decide +kernel
theorem dX6_readCat_71 : decode cX6_readCat 71 = .ok (.aaload, 1) := by decide +kernel
theorem dX6_readCat_72 : decode cX6_readCat 72 = .ok (.astore_n 1, 1) := by decide +kernel
theorem dX6_readCat_73 : decode cX6_readCat 73 = .ok (.aload_n 1, 1) := by decide +kernel
theorem dX6_readCat_74 : decode cX6_readCat 74 = .ok (.invokevirtual 94, 3) := by decide +kernel
theorem dX6_readCat_77 : decode cX6_readCat 77 = .ok (.aload_n 1, 1) := by decide +kernel
theorem dX6_readCat_78 : decode cX6_readCat 78 = .ok (.aload_n 0, 1) := by decide +kernel
theorem dX6_readCat_79 : decode cX6_readCat 79 = .ok (.getfield 9, 3) := by decide +kernel
theorem dX6_readCat_82 : decode cX6_readCat 82 = .ok (.invokevirtual 97, 3) := by decide +kernel
theorem dX6_readCat_85 : decode cX6_readCat 85 = .ok (.putfield 101, 3) := by decide +kernel
theorem dX6_readCat_88 : decode cX6_readCat 88 = .ok (.aload_n 0, 1) := by decide +kernel
theorem dX6_readCat_89 : decode cX6_readCat 89 = .ok (.getfield 9, 3) := by decide +kernel
theorem dX6_readCat_92 : decode cX6_readCat 92 = .ok (.iconst 1, 1) := by decide +kernel
theorem dX6_readCat_93 : decode cX6_readCat 93 = .ok (.bipush 9, 2) := by decide +kernel
theorem dX6_readCat_95 : decode cX6_readCat 95 = .ok (.invokevirtual 105, 3) := by decide +kernel
theorem dX6_readCat_98 : decode cX6_readCat 98 = .ok (.ifCond .ne 5, 3) := by decide +kernel
theorem dX6_readCat_101 : decode cX6_readCat 101 = .ok (.iconst 0, 1) := by decide +kernel
theorem dX6_readCat_102 : decode cX6_readCat 102 = .ok (.ireturn, 1) := by decide +kernel
theorem dX6_readCat_103 : decode cX6_readCat 103 = .ok (.aload_n 1, 1) := by decide +kernel
theorem dX6_readCat_104 : decode cX6_readCat 104 = .ok (.aload_n 0, 1) := by decide +kernel
theorem dX6_readCat_105 : decode cX6_readCat 105 = .ok (.getfield 9, 3) := by decide +kernel
theorem dX6_readCat_108 : decode cX6_readCat 108 = .ok (.getfield 109, 3) := by decide +kernel
theorem dX6_readCat_111 : decode cX6_readCat 111 = .ok (.putfield 112, 3) := by decide +kernel
theorem dX6_readCat_114 : decode cX6_readCat 114 = .ok (.aload_n 0, 1) := by decide +kernel
theorem dX6_readCat_115 : decode cX6_readCat 115 = .ok (.getfield 9, 3) := by decide +kernel
theorem dX6_readCat_118 : decode cX6_readCat 118 = .ok (.ldc 115, 2) := by decide +kernel
theorem dX6_readCat_120 : decode cX6_readCat 120 = .ok (.ldc 117, 2) := by decide +kernel
theorem dX6_readCat_122 : decode cX6_readCat 122 = .ok (.invokevirtual 119, 3) := by decide +kernel
theorem dX6_readCat_125 : decode cX6_readCat 125 = .ok (.ifCond .ne 5, 3) := by decide +kernel
theorem dX6_readCat_128 : decode cX6_readCat 128 = .ok (.iconst 0, 1) := by decide +kernel
theorem dX6_readCat_129 : decode cX6_readCat 129 = .ok (.ireturn, 1) := by decide +kernel
theorem dX6_readCat_130 : decode cX6_readCat 130 = .ok (.aload_n 1, 1) := by decide +kernel
theorem dX6_readCat_131 : decode cX6_readCat 131 = .ok (.aload_n 0, 1) := by decide +kernel
theorem dX6_readCat_132 : decode cX6_readCat 132 = .ok (.getfield 9, 3) := by decide +kernel
theorem dX6_readCat_135 : decode cX6_readCat 135 = .ok (.ldc 115, 2) := by decide +kernel
theorem dX6_readCat_137 : decode cX6_readCat 137 = .ok (.invokevirtual 56, 3) := by decide +kernel
theorem dX6_readCat_140 : decode cX6_readCat 140 = .ok (.putfield 123, 3) := by decide +kernel
theorem dX6_readCat_143 : decode cX6_readCat 143 = .ok (.aload_n 0, 1) := by decide +kernel
theorem dX6_readCat_144 : decode cX6_readCat 144 = .ok (.getfield 15, 3) := by decide +kernel
theorem dX6_readCat_147 : decode cX6_readCat 147 = .ok (.dup, 1) := by decide +kernel
theorem dX6_readCat_148 : decode cX6_readCat 148 = .ok (.getfield 40, 3) := by decide +kernel
theorem dX6_readCat_151 : decode cX6_readCat 151 = .ok (.iconst 1, 1) := by decide +kernel
theorem dX6_readCat_152 : decode cX6_readCat 152 = .ok (.iadd, 1) := by decide +kernel
theorem dX6_readCat_153 : decode cX6_readCat 153 = .ok (.putfield 40, 3) := by decide +kernel
theorem dX6_readCat_156 : decode cX6_readCat 156 = .ok (.aload_n 0, 1) := by decide +kernel
theorem dX6_readCat_157 : decode cX6_readCat 157 = .ok (.getfield 9, 3) := by decide +kernel
theorem dX6_readCat_160 : decode cX6_readCat 160 = .ok (.invokevirtual 126, 3) := by decide +kernel
theorem dX6_readCat_163 : decode cX6_readCat 163 = .ok (.ireturn, 1) := by decide +kernel
theorem dX6_readSack_0 : decode cX6_readSack 0 = .ok (.aload_n 0, 1) := by decide +kernel
theorem dX6_readSack_1 : decode cX6_readSack 1 = .ok (.getfield 15, 3) := by decide +kernel
theorem dX6_readSack_4 : decode cX6_readSack 4 = .ok (.getfield 43, 3) := by decide +kernel
theorem dX6_readSack_7 : decode cX6_readSack 7 = .ok (.bipush 6, 2) := by decide +kernel
theorem dX6_readSack_9 : decode cX6_readSack 9 = .ok (.if_icmp .lt 12, 3) := by decide +kernel
theorem dX6_readSack_12 : decode cX6_readSack 12 = .ok (.aload_n 0, 1) := by decide +kernel
theorem dX6_readSack_13 : decode cX6_readSack 13 = .ok (.getfield 9, 3) := by decide +kernel
theorem dX6_readSack_16 : decode cX6_readSack 16 = .ok (.iconst 5, 1) := by decide +kernel
theorem dX6_readSack_17 : decode cX6_readSack 17 = .ok (.invokevirtual 49, 3) := by decide +kernel
theorem dX6_readSack_20 : decode cX6_readSack 20 = .ok (.ireturn, 1) := by decide +kernel
theorem dX6_readSack_21 : decode cX6_readSack 21 = .ok (.aload_n 0, 1) := by decide +kernel
theorem dX6_readSack_22 : decode cX6_readSack 22 = .ok (.getfield 9, 3) := by decide +kernel
theorem dX6_readSack_25 : decode cX6_readSack 25 = .ok (.invokevirtual 83, 3) := by decide +kernel
theorem dX6_readSack_28 : decode cX6_readSack 28 = .ok (.ifCond .ne 5, 3) := by decide +kernel
theorem dX6_readSack_31 : decode cX6_readSack 31 = .ok (.iconst 0, 1) := by decide +kernel
theorem dX6_readSack_32 : decode cX6_readSack 32 = .ok (.ireturn, 1) := by decide +kernel
theorem dX6_readSack_33 : decode cX6_readSack 33 = .ok (.aload_n 0, 1) := by decide +kernel
theorem dX6_readSack_34 : decode cX6_readSack 34 = .ok (.getfield 15, 3) := by decide +kernel
theorem dX6_readSack_37 : decode cX6_readSack 37 = .ok (.aload_n 0, 1) := by decide +kernel
theorem dX6_readSack_38 : decode cX6_readSack 38 = .ok (.getfield 9, 3) := by decide +kernel
theorem dX6_readSack_41 : decode cX6_readSack 41 = .ok (.invokevirtual 129, 3) := by decide +kernel
theorem dX6_readSack_44 : decode cX6_readSack 44 = .ok (.iconst (-1), 1) := by decide +kernel
theorem dX6_readSack_45 : decode cX6_readSack 45 = .ok (.if_icmp .eq 12, 3) := by decide +kernel
theorem dX6_readSack_48 : decode cX6_readSack 48 = .ok (.aload_n 0, 1) := by decide +kernel
theorem dX6_readSack_49 : decode cX6_readSack 49 = .ok (.getfield 9, 3) := by decide +kernel
theorem dX6_readSack_52 : decode cX6_readSack 52 = .ok (.iconst 3, 1) := by decide +kernel
theorem dX6_readSack_53 : decode cX6_readSack 53 = .ok (.invokevirtual 49, 3) := by decide +kernel
theorem dX6_readSack_56 : decode cX6_readSack 56 = .ok (.ireturn, 1) := by decide +kernel
theorem dX6_readSack_57 : decode cX6_readSack 57 = .ok (.aload_n 0, 1) := by decide +kernel
theorem dX6_readSack_58 : decode cX6_readSack 58 = .ok (.getfield 15, 3) := by decide +kernel
theorem dX6_readSack_61 : decode cX6_readSack 61 = .ok (.getfield 132, 3) := by decide +kernel
theorem dX6_readSack_64 : decode cX6_readSack 64 = .ok (.aload_n 0, 1) := by decide +kernel
theorem dX6_readSack_65 : decode cX6_readSack 65 = .ok (.getfield 15, 3) := by decide +kernel
theorem dX6_readSack_68 : decode cX6_readSack 68 = .ok (.getfield 43, 3) := by decide +kernel
theorem dX6_readSack_71 : decode cX6_readSack 71 = .ok (.aaload, 1) := by decide +kernel
theorem dX6_readSack_72 : decode cX6_readSack 72 = .ok (.astore_n 1, 1) := by decide +kernel
theorem dX6_readSack_73 : decode cX6_readSack 73 = .ok (.aload_n 1, 1) := by decide +kernel
theorem dX6_readSack_74 : decode cX6_readSack 74 = .ok (.iconst 0, 1) := by decide +kernel
theorem dX6_readSack_75 : decode cX6_readSack 75 = .ok (.putfield 136, 3) := by decide +kernel
theorem dX6_readSack_78 : decode cX6_readSack 78 = .ok (.aload_n 1, 1) := by decide +kernel
theorem dX6_readSack_79 : decode cX6_readSack 79 = .ok (.aload_n 0, 1) := by decide +kernel
theorem dX6_readSack_80 : decode cX6_readSack 80 = .ok (.getfield 9, 3) := by decide +kernel
theorem dX6_readSack_83 : decode cX6_readSack 83 = .ok (.invokevirtual 97, 3) := by decide +kernel
theorem dX6_readSack_86 : decode cX6_readSack 86 = .ok (.putfield 141, 3) := by decide +kernel
theorem dX6_readSack_89 : decode cX6_readSack 89 = .ok (.aload_n 0, 1) := by decide +kernel
theorem dX6_readSack_90 : decode cX6_readSack 90 = .ok (.getfield 9, 3) := by decide +kernel
theorem dX6_readSack_93 : decode cX6_readSack 93 = .ok (.iconst 0, 1) := by decide +kernel
theorem dX6_readSack_94 : decode cX6_readSack 94 = .ok (.sipush 999, 3) := by decide +kernel
theorem dX6_readSack_97 : decode cX6_readSack 97 = .ok (.invokevirtual 105, 3) := by decide +kernel
theorem dX6_readSack_100 : decode cX6_readSack 100 = .ok (.ifCond .ne 5, 3) := by decide +kernel
theorem dX6_readSack_103 : decode cX6_readSack 103 = .ok (.iconst 0, 1) := by decide +kernel
theorem dX6_readSack_104 : decode cX6_readSack 104 = .ok (.ireturn, 1) := by decide +kernel
theorem dX6_readSack_105 : decode cX6_readSack 105 = .ok (.aload_n 1, 1) := by decide +kernel
theorem dX6_readSack_106 : decode cX6_readSack 106 = .ok (.aload_n 0, 1) := by decide +kernel
theorem dX6_readSack_107 : decode cX6_readSack 107 = .ok (.getfield 9, 3) := by decide +kernel
theorem dX6_readSack_110 : decode cX6_readSack 110 = .ok (.getfield 109, 3) := by decide +kernel
theorem dX6_readSack_113 : decode cX6_readSack 113 = .ok (.putfield 142, 3) := by decide +kernel
theorem dX6_readSack_116 : decode cX6_readSack 116 = .ok (.aload_n 0, 1) := by decide +kernel
theorem dX6_readSack_117 : decode cX6_readSack 117 = .ok (.getfield 9, 3) := by decide +kernel
theorem dX6_readSack_120 : decode cX6_readSack 120 = .ok (.iconst 0, 1) := by decide +kernel
theorem dX6_readSack_121 : decode cX6_readSack 121 = .ok (.bipush 99, 2) := by decide +kernel
theorem dX6_readSack_123 : decode cX6_readSack 123 = .ok (.invokevirtual 105, 3) := by decide +kernel
theorem dX6_readSack_126 : decode cX6_readSack 126 = .ok (.ifCond .ne 5, 3) := by decide +kernel
theorem dX6_readSack_129 : decode cX6_readSack 129 = .ok (.iconst 0, 1) := by decide +kernel
theorem dX6_readSack_130 : decode cX6_readSack 130 = .ok (.ireturn, 1) := by decide +kernel
theorem dX6_readSack_131 : decode cX6_readSack 131 = .ok (.aload_n 1, 1) := by decide +kernel
theorem dX6_readSack_132 : decode cX6_readSack 132 = .ok (.aload_n 0, 1) := by decide +kernel
theorem dX6_readSack_133 : decode cX6_readSack 133 = .ok (.getfield 9, 3) := by decide +kernel
theorem dX6_readSack_136 : decode cX6_readSack 136 = .ok (.getfield 109, 3) := by decide +kernel
theorem dX6_readSack_139 : decode cX6_readSack 139 = .ok (.putfield 145, 3) := by decide +kernel
theorem dX6_readSack_142 : decode cX6_readSack 142 = .ok (.aload_n 0, 1) := by decide +kernel
theorem dX6_readSack_143 : decode cX6_readSack 143 = .ok (.getfield 9, 3) := by decide +kernel
theorem dX6_readSack_146 : decode cX6_readSack 146 = .ok (.ldc 148, 2) := by decide +kernel
theorem dX6_readSack_148 : decode cX6_readSack 148 = .ok (.ldc 150, 2) := by decide +kernel
theorem dX6_readSack_150 : decode cX6_readSack 150 = .ok (.invokevirtual 119, 3) := by decide +kernel
theorem dX6_readSack_153 : decode cX6_readSack 153 = .ok (.ifCond .ne 5, 3) := by decide +kernel
theorem dX6_readSack_156 : decode cX6_readSack 156 = .ok (.iconst 0, 1) := by decide +kernel
theorem dX6_readSack_157 : decode cX6_readSack 157 = .ok (.ireturn, 1) := by decide +kernel
theorem dX6_readSack_158 : decode cX6_readSack 158 = .ok (.aload_n 1, 1) := by decide +kernel
theorem dX6_readSack_159 : decode cX6_readSack 159 = .ok (.aload_n 0, 1) := by decide +kernel
theorem dX6_readSack_160 : decode cX6_readSack 160 = .ok (.getfield 9, 3) := by decide +kernel
theorem dX6_readSack_163 : decode cX6_readSack 163 = .ok (.ldc 148, 2) := by decide +kernel
theorem dX6_readSack_165 : decode cX6_readSack 165 = .ok (.invokevirtual 56, 3) := by decide +kernel
theorem dX6_readSack_168 : decode cX6_readSack 168 = .ok (.putfield 152, 3) := by decide +kernel
theorem dX6_readSack_171 : decode cX6_readSack 171 = .ok (.aload_n 0, 1) := by decide +kernel
theorem dX6_readSack_172 : decode cX6_readSack 172 = .ok (.getfield 15, 3) := by decide +kernel
theorem dX6_readSack_175 : decode cX6_readSack 175 = .ok (.dup, 1) := by decide +kernel
theorem dX6_readSack_176 : decode cX6_readSack 176 = .ok (.getfield 43, 3) := by decide +kernel
theorem dX6_readSack_179 : decode cX6_readSack 179 = .ok (.iconst 1, 1) := by decide +kernel
theorem dX6_readSack_180 : decode cX6_readSack 180 = .ok (.iadd, 1) := by decide +kernel
theorem dX6_readSack_181 : decode cX6_readSack 181 = .ok (.putfield 43, 3) := by decide +kernel
theorem dX6_readSack_184 : decode cX6_readSack 184 = .ok (.aload_n 0, 1) := by decide +kernel
theorem dX6_readSack_185 : decode cX6_readSack 185 = .ok (.getfield 9, 3) := by decide +kernel
theorem dX6_readSack_188 : decode cX6_readSack 188 = .ok (.invokevirtual 126, 3) := by decide +kernel
theorem dX6_readSack_191 : decode cX6_readSack 191 = .ok (.ireturn, 1) := by decide +kernel
theorem dX6_readShift_0 : decode cX6_readShift 0 = .ok (.aload_n 0, 1) := by decide +kernel
theorem dX6_readShift_1 : decode cX6_readShift 1 = .ok (.getfield 15, 3) := by decide +kernel
theorem dX6_readShift_4 : decode cX6_readShift 4 = .ok (.getfield 46, 3) := by decide +kernel
theorem dX6_readShift_7 : decode cX6_readShift 7 = .ok (.bipush 12, 2) := by decide +kernel
theorem dX6_readShift_9 : decode cX6_readShift 9 = .ok (.if_icmp .lt 12, 3) := by decide +kernel
theorem dX6_readShift_12 : decode cX6_readShift 12 = .ok (.aload_n 0, 1) := by decide +kernel
theorem dX6_readShift_13 : decode cX6_readShift 13 = .ok (.getfield 9, 3) := by decide +kernel
theorem dX6_readShift_16 : decode cX6_readShift 16 = .ok (.iconst 5, 1) := by decide +kernel
theorem dX6_readShift_17 : decode cX6_readShift 17 = .ok (.invokevirtual 49, 3) := by decide +kernel
theorem dX6_readShift_20 : decode cX6_readShift 20 = .ok (.ireturn, 1) := by decide +kernel
theorem dX6_readShift_21 : decode cX6_readShift 21 = .ok (.aload_n 0, 1) := by decide +kernel
theorem dX6_readShift_22 : decode cX6_readShift 22 = .ok (.getfield 9, 3) := by decide +kernel
theorem dX6_readShift_25 : decode cX6_readShift 25 = .ok (.invokevirtual 83, 3) := by decide +kernel
theorem dX6_readShift_28 : decode cX6_readShift 28 = .ok (.ifCond .ne 5, 3) := by decide +kernel
theorem dX6_readShift_31 : decode cX6_readShift 31 = .ok (.iconst 0, 1) := by decide +kernel
theorem dX6_readShift_32 : decode cX6_readShift 32 = .ok (.ireturn, 1) := by decide +kernel
theorem dX6_readShift_33 : decode cX6_readShift 33 = .ok (.aload_n 0, 1) := by decide +kernel
theorem dX6_readShift_34 : decode cX6_readShift 34 = .ok (.getfield 15, 3) := by decide +kernel
theorem dX6_readShift_37 : decode cX6_readShift 37 = .ok (.aload_n 0, 1) := by decide +kernel
theorem dX6_readShift_38 : decode cX6_readShift 38 = .ok (.getfield 9, 3) := by decide +kernel
theorem dX6_readShift_41 : decode cX6_readShift 41 = .ok (.invokevirtual 86, 3) := by decide +kernel
theorem dX6_readShift_44 : decode cX6_readShift 44 = .ok (.istore_n 1, 1) := by decide +kernel
theorem dX6_readShift_45 : decode cX6_readShift 45 = .ok (.iload_n 1, 1) := by decide +kernel
theorem dX6_readShift_46 : decode cX6_readShift 46 = .ok (.iconst (-1), 1) := by decide +kernel
theorem dX6_readShift_47 : decode cX6_readShift 47 = .ok (.if_icmp .ne 12, 3) := by decide +kernel
theorem dX6_readShift_50 : decode cX6_readShift 50 = .ok (.aload_n 0, 1) := by decide +kernel
theorem dX6_readShift_51 : decode cX6_readShift 51 = .ok (.getfield 9, 3) := by decide +kernel
theorem dX6_readShift_54 : decode cX6_readShift 54 = .ok (.iconst 4, 1) := by decide +kernel
theorem dX6_readShift_55 : decode cX6_readShift 55 = .ok (.invokevirtual 49, 3) := by decide +kernel
theorem dX6_readShift_58 : decode cX6_readShift 58 = .ok (.ireturn, 1) := by decide +kernel
theorem dX6_readShift_59 : decode cX6_readShift 59 = .ok (.aload_n 0, 1) := by decide +kernel
theorem dX6_readShift_60 : decode cX6_readShift 60 = .ok (.getfield 9, 3) := by decide +kernel
theorem dX6_readShift_63 : decode cX6_readShift 63 = .ok (.iconst 1, 1) := by decide +kernel
theorem dX6_readShift_64 : decode cX6_readShift 64 = .ok (.bipush 24, 2) := by decide +kernel
theorem dX6_readShift_66 : decode cX6_readShift 66 = .ok (.invokevirtual 105, 3) := by decide +kernel
theorem dX6_readShift_69 : decode cX6_readShift 69 = .ok (.ifCond .ne 5, 3) := by decide +kernel
theorem dX6_readShift_72 : decode cX6_readShift 72 = .ok (.iconst 0, 1) := by decide +kernel
theorem dX6_readShift_73 : decode cX6_readShift 73 = .ok (.ireturn, 1) := by decide +kernel
theorem dX6_readShift_74 : decode cX6_readShift 74 = .ok (.aload_n 0, 1) := by decide +kernel
theorem dX6_readShift_75 : decode cX6_readShift 75 = .ok (.getfield 15, 3) := by decide +kernel
theorem dX6_readShift_78 : decode cX6_readShift 78 = .ok (.getfield 154, 3) := by decide +kernel
theorem dX6_readShift_81 : decode cX6_readShift 81 = .ok (.aload_n 0, 1) := by decide +kernel
theorem dX6_readShift_82 : decode cX6_readShift 82 = .ok (.getfield 15, 3) := by decide +kernel
theorem dX6_readShift_85 : decode cX6_readShift 85 = .ok (.getfield 46, 3) := by decide +kernel
theorem dX6_readShift_88 : decode cX6_readShift 88 = .ok (.aaload, 1) := by decide +kernel
theorem dX6_readShift_89 : decode cX6_readShift 89 = .ok (.iload_n 1, 1) := by decide +kernel
theorem dX6_readShift_90 : decode cX6_readShift 90 = .ok (.putfield 158, 3) := by decide +kernel
theorem dX6_readShift_93 : decode cX6_readShift 93 = .ok (.aload_n 0, 1) := by decide +kernel
theorem dX6_readShift_94 : decode cX6_readShift 94 = .ok (.getfield 15, 3) := by decide +kernel
theorem dX6_readShift_97 : decode cX6_readShift 97 = .ok (.getfield 154, 3) := by decide +kernel
theorem dX6_readShift_100 : decode cX6_readShift 100 = .ok (.aload_n 0, 1) := by decide +kernel
theorem dX6_readShift_101 : decode cX6_readShift 101 = .ok (.getfield 15, 3) := by decide +kernel
theorem dX6_readShift_104 : decode cX6_readShift 104 = .ok (.getfield 46, 3) := by decide +kernel
theorem dX6_readShift_107 : decode cX6_readShift 107 = .ok (.aaload, 1) := by decide +kernel
theorem dX6_readShift_108 : decode cX6_readShift 108 = .ok (.aload_n 0, 1) := by decide +kernel
theorem dX6_readShift_109 : decode cX6_readShift 109 = .ok (.getfield 9, 3) := by decide +kernel
theorem dX6_readShift_112 : decode cX6_readShift 112 = .ok (.getfield 109, 3) := by decide +kernel
theorem dX6_readShift_115 : decode cX6_readShift 115 = .ok (.putfield 162, 3) := by decide +kernel
theorem dX6_readShift_118 : decode cX6_readShift 118 = .ok (.aload_n 0, 1) := by decide +kernel
theorem dX6_readShift_119 : decode cX6_readShift 119 = .ok (.getfield 15, 3) := by decide +kernel
theorem dX6_readShift_122 : decode cX6_readShift 122 = .ok (.dup, 1) := by decide +kernel
theorem dX6_readShift_123 : decode cX6_readShift 123 = .ok (.getfield 46, 3) := by decide +kernel
theorem dX6_readShift_126 : decode cX6_readShift 126 = .ok (.iconst 1, 1) := by decide +kernel
theorem dX6_readShift_127 : decode cX6_readShift 127 = .ok (.iadd, 1) := by decide +kernel
theorem dX6_readShift_128 : decode cX6_readShift 128 = .ok (.putfield 46, 3) := by decide +kernel
theorem dX6_readShift_131 : decode cX6_readShift 131 = .ok (.aload_n 0, 1) := by decide +kernel
theorem dX6_readShift_132 : decode cX6_readShift 132 = .ok (.getfield 9, 3) := by decide +kernel
theorem dX6_readShift_135 : decode cX6_readShift 135 = .ok (.invokevirtual 126, 3) := by decide +kernel
theorem dX6_readShift_138 : decode cX6_readShift 138 = .ok (.ireturn, 1) := by decide +kernel
theorem dX6_readMilk_0 : decode cX6_readMilk 0 = .ok (.aload_n 0, 1) := by decide +kernel
theorem dX6_readMilk_1 : decode cX6_readMilk 1 = .ok (.getfield 9, 3) := by decide +kernel
theorem dX6_readMilk_4 : decode cX6_readMilk 4 = .ok (.iconst 0, 1) := by decide +kernel
theorem dX6_readMilk_5 : decode cX6_readMilk 5 = .ok (.bipush 9, 2) := by decide +kernel
theorem dX6_readMilk_7 : decode cX6_readMilk 7 = .ok (.invokevirtual 105, 3) := by decide +kernel
theorem dX6_readMilk_10 : decode cX6_readMilk 10 = .ok (.ifCond .ne 5, 3) := by decide +kernel
theorem dX6_readMilk_13 : decode cX6_readMilk 13 = .ok (.iconst 0, 1) := by decide +kernel
theorem dX6_readMilk_14 : decode cX6_readMilk 14 = .ok (.ireturn, 1) := by decide +kernel
theorem dX6_readMilk_15 : decode cX6_readMilk 15 = .ok (.aload_n 0, 1) := by decide +kernel
theorem dX6_readMilk_16 : decode cX6_readMilk 16 = .ok (.getfield 15, 3) := by decide +kernel
theorem dX6_readMilk_19 : decode cX6_readMilk 19 = .ok (.aload_n 0, 1) := by decide +kernel
theorem dX6_readMilk_20 : decode cX6_readMilk 20 = .ok (.getfield 9, 3) := by decide +kernel
theorem dX6_readMilk_23 : decode cX6_readMilk 23 = .ok (.getfield 109, 3) := by decide +kernel
theorem dX6_readMilk_26 : decode cX6_readMilk 26 = .ok (.putfield 165, 3) := by decide +kernel
theorem dX6_readMilk_29 : decode cX6_readMilk 29 = .ok (.aload_n 0, 1) := by decide +kernel
theorem dX6_readMilk_30 : decode cX6_readMilk 30 = .ok (.getfield 9, 3) := by decide +kernel
theorem dX6_readMilk_33 : decode cX6_readMilk 33 = .ok (.invokevirtual 126, 3) := by decide +kernel
theorem dX6_readMilk_36 : decode cX6_readMilk 36 = .ok (.ireturn, 1) := by decide +kernel
theorem dX6_readHour_0 : decode cX6_readHour 0 = .ok (.aload_n 0, 1) := by decide +kernel
theorem dX6_readHour_1 : decode cX6_readHour 1 = .ok (.getfield 9, 3) := by decide +kernel
theorem dX6_readHour_4 : decode cX6_readHour 4 = .ok (.iconst 0, 1) := by decide +kernel
theorem dX6_readHour_5 : decode cX6_readHour 5 = .ok (.bipush 23, 2) := by decide +kernel
theorem dX6_readHour_7 : decode cX6_readHour 7 = .ok (.invokevirtual 105, 3) := by decide +kernel
theorem dX6_readHour_10 : decode cX6_readHour 10 = .ok (.ifCond .ne 5, 3) := by decide +kernel
theorem dX6_readHour_13 : decode cX6_readHour 13 = .ok (.iconst 0, 1) := by decide +kernel
theorem dX6_readHour_14 : decode cX6_readHour 14 = .ok (.ireturn, 1) := by decide +kernel
theorem dX6_readHour_15 : decode cX6_readHour 15 = .ok (.aload_n 0, 1) := by decide +kernel
theorem dX6_readHour_16 : decode cX6_readHour 16 = .ok (.getfield 15, 3) := by decide +kernel
theorem dX6_readHour_19 : decode cX6_readHour 19 = .ok (.aload_n 0, 1) := by decide +kernel
theorem dX6_readHour_20 : decode cX6_readHour 20 = .ok (.getfield 9, 3) := by decide +kernel
theorem dX6_readHour_23 : decode cX6_readHour 23 = .ok (.getfield 109, 3) := by decide +kernel
theorem dX6_readHour_26 : decode cX6_readHour 26 = .ok (.putfield 167, 3) := by decide +kernel
theorem dX6_readHour_29 : decode cX6_readHour 29 = .ok (.aload_n 0, 1) := by decide +kernel
theorem dX6_readHour_30 : decode cX6_readHour 30 = .ok (.getfield 9, 3) := by decide +kernel
theorem dX6_readHour_33 : decode cX6_readHour 33 = .ok (.invokevirtual 126, 3) := by decide +kernel
theorem dX6_readHour_36 : decode cX6_readHour 36 = .ok (.ireturn, 1) := by decide +kernel
theorem dX7_init_0 : decode cX7_init 0 = .ok (.aload_n 0, 1) := by decide +kernel
theorem dX7_init_1 : decode cX7_init 1 = .ok (.invokespecial 1, 3) := by decide +kernel
theorem dX7_init_4 : decode cX7_init 4 = .ok (.return_, 1) := by decide +kernel
theorem dX7_copyFrom_0 : decode cX7_copyFrom 0 = .ok (.aload_n 0, 1) := by decide +kernel
theorem dX7_copyFrom_1 : decode cX7_copyFrom 1 = .ok (.aload_n 1, 1) := by decide +kernel
theorem dX7_copyFrom_2 : decode cX7_copyFrom 2 = .ok (.getfield 7, 3) := by decide +kernel
theorem dX7_copyFrom_5 : decode cX7_copyFrom 5 = .ok (.putfield 7, 3) := by decide +kernel
theorem dX7_copyFrom_8 : decode cX7_copyFrom 8 = .ok (.aload_n 0, 1) := by decide +kernel
theorem dX7_copyFrom_9 : decode cX7_copyFrom 9 = .ok (.aload_n 1, 1) := by decide +kernel
theorem dX7_copyFrom_10 : decode cX7_copyFrom 10 = .ok (.getfield 13, 3) := by decide +kernel
theorem dX7_copyFrom_13 : decode cX7_copyFrom 13 = .ok (.putfield 13, 3) := by decide +kernel
theorem dX7_copyFrom_16 : decode cX7_copyFrom 16 = .ok (.return_, 1) := by decide +kernel
theorem dX8_init_0 : decode cX8_init 0 = .ok (.aload_n 0, 1) := by decide +kernel
theorem dX8_init_1 : decode cX8_init 1 = .ok (.invokespecial 3, 3) := by decide +kernel
theorem dX8_init_4 : decode cX8_init 4 = .ok (.aload_n 0, 1) := by decide +kernel
theorem dX8_init_5 : decode cX8_init 5 = .ok (.sipush 600, 3) := by decide +kernel
theorem dX8_init_8 : decode cX8_init 8 = .ok (.newarray .byte, 2) := by decide +kernel
theorem dX8_init_10 : decode cX8_init 10 = .ok (.putfield 9, 3) := by decide +kernel
theorem dX8_init_13 : decode cX8_init 13 = .ok (.aload_n 0, 1) := by decide +kernel
theorem dX8_init_14 : decode cX8_init 14 = .ok (.new 15, 3) := by decide +kernel
theorem dX8_init_17 : decode cX8_init 17 = .ok (.dup, 1) := by decide +kernel
theorem dX8_init_18 : decode cX8_init 18 = .ok (.invokespecial 17, 3) := by decide +kernel
theorem dX8_init_21 : decode cX8_init 21 = .ok (.putfield 18, 3) := by decide +kernel
theorem dX8_init_24 : decode cX8_init 24 = .ok (.aload_n 0, 1) := by decide +kernel
theorem dX8_init_25 : decode cX8_init 25 = .ok (.iconst 0, 1) := by decide +kernel
theorem dX8_init_26 : decode cX8_init 26 = .ok (.putfield 22, 3) := by decide +kernel
theorem dX8_init_29 : decode cX8_init 29 = .ok (.aload_n 0, 1) := by decide +kernel
theorem dX8_init_30 : decode cX8_init 30 = .ok (.iconst (-1), 1) := by decide +kernel
theorem dX8_init_31 : decode cX8_init 31 = .ok (.putfield 26, 3) := by decide +kernel
theorem dX8_init_34 : decode cX8_init 34 = .ok (.return_, 1) := by decide +kernel
theorem dX8_appendFour_0 : decode cX8_appendFour 0 = .ok (.aload_n 0, 1) := by decide +kernel
theorem dX8_appendFour_1 : decode cX8_appendFour 1 = .ok (.iload_n 1, 1) := by decide +kernel
theorem dX8_appendFour_2 : decode cX8_appendFour 2 = .ok (.bipush 24, 2) := by decide +kernel
theorem dX8_appendFour_4 : decode cX8_appendFour 4 = .ok (.ishr, 1) := by decide +kernel
theorem dX8_appendFour_5 : decode cX8_appendFour 5 = .ok (.invokevirtual 29, 3) := by decide +kernel
theorem dX8_appendFour_8 : decode cX8_appendFour 8 = .ok (.aload_n 0, 1) := by decide +kernel
theorem dX8_appendFour_9 : decode cX8_appendFour 9 = .ok (.iload_n 1, 1) := by decide +kernel
theorem dX8_appendFour_10 : decode cX8_appendFour 10 = .ok (.bipush 16, 2) := by decide +kernel
theorem dX8_appendFour_12 : decode cX8_appendFour 12 = .ok (.ishr, 1) := by decide +kernel
theorem dX8_appendFour_13 : decode cX8_appendFour 13 = .ok (.invokevirtual 29, 3) := by decide +kernel
theorem dX8_appendFour_16 : decode cX8_appendFour 16 = .ok (.aload_n 0, 1) := by decide +kernel
theorem dX8_appendFour_17 : decode cX8_appendFour 17 = .ok (.iload_n 1, 1) := by decide +kernel
theorem dX8_appendFour_18 : decode cX8_appendFour 18 = .ok (.bipush 8, 2) := by decide +kernel
theorem dX8_appendFour_20 : decode cX8_appendFour 20 = .ok (.ishr, 1) := by decide +kernel
theorem dX8_appendFour_21 : decode cX8_appendFour 21 = .ok (.invokevirtual 29, 3) := by decide +kernel
theorem dX8_appendFour_24 : decode cX8_appendFour 24 = .ok (.aload_n 0, 1) := by decide +kernel
theorem dX8_appendFour_25 : decode cX8_appendFour 25 = .ok (.iload_n 1, 1) := by decide +kernel
theorem dX8_appendFour_26 : decode cX8_appendFour 26 = .ok (.invokevirtual 29, 3) := by decide +kernel
theorem dX8_appendFour_29 : decode cX8_appendFour 29 = .ok (.return_, 1) := by decide +kernel
theorem dX8_appendWords_0 : decode cX8_appendWords 0 = .ok (.iconst 0, 1) := by decide +kernel
theorem dX8_appendWords_1 : decode cX8_appendWords 1 = .ok (.istore_n 2, 1) := by decide +kernel
theorem dX8_appendWords_2 : decode cX8_appendWords 2 = .ok (.iload_n 2, 1) := by decide +kernel
theorem dX8_appendWords_3 : decode cX8_appendWords 3 = .ok (.aload_n 1, 1) := by decide +kernel
theorem dX8_appendWords_4 : decode cX8_appendWords 4 = .ok (.invokevirtual 33, 3) := by decide +kernel
theorem dX8_appendWords_7 : decode cX8_appendWords 7 = .ok (.if_icmp .ge 18, 3) := by decide +kernel
theorem dX8_appendWords_10 : decode cX8_appendWords 10 = .ok (.aload_n 0, 1) := by decide +kernel
theorem dX8_appendWords_11 : decode cX8_appendWords 11 = .ok (.aload_n 1, 1) := by decide +kernel
theorem dX8_appendWords_12 : decode cX8_appendWords 12 = .ok (.iload_n 2, 1) := by decide +kernel
theorem dX8_appendWords_13 : decode cX8_appendWords 13 = .ok (.invokevirtual 39, 3) := by decide +kernel
theorem dX8_appendWords_16 : decode cX8_appendWords 16 = .ok (.invokevirtual 29, 3) := by decide +kernel
theorem dX8_appendWords_19 : decode cX8_appendWords 19 = .ok (.iinc 2 1, 3) := by decide +kernel
theorem dX8_appendWords_22 : decode cX8_appendWords 22 = .ok (.goto (-20), 3) := by decide +kernel
theorem dX8_appendWords_25 : decode cX8_appendWords 25 = .ok (.return_, 1) := by decide +kernel
theorem dX8_append_0 : decode cX8_append 0 = .ok (.aload_n 0, 1) := by decide +kernel
theorem dX8_append_1 : decode cX8_append 1 = .ok (.getfield 43, 3) := by decide +kernel
theorem dX8_append_4 : decode cX8_append 4 = .ok (.aload_n 0, 1) := by decide +kernel
theorem dX8_append_5 : decode cX8_append 5 = .ok (.getfield 9, 3) := by decide +kernel
theorem dX8_append_8 : decode cX8_append 8 = .ok (.arraylength, 1) := by decide +kernel
theorem dX8_append_9 : decode cX8_append 9 = .ok (.if_icmp .ge 24, 3) := by decide +kernel
theorem dX8_append_12 : decode cX8_append 12 = .ok (.aload_n 0, 1) := by decide +kernel
theorem dX8_append_13 : decode cX8_append 13 = .ok (.getfield 9, 3) := by decide +kernel
theorem dX8_append_16 : decode cX8_append 16 = .ok (.aload_n 0, 1) := by decide +kernel
theorem dX8_append_17 : decode cX8_append 17 = .ok (.getfield 43, 3) := by decide +kernel
theorem dX8_append_20 : decode cX8_append 20 = .ok (.iload_n 1, 1) := by decide +kernel
theorem dX8_append_21 : decode cX8_append 21 = .ok (.i2b, 1) := by decide +kernel
theorem dX8_append_22 : decode cX8_append 22 = .ok (.bastore, 1) := by decide +kernel
theorem dX8_append_23 : decode cX8_append 23 = .ok (.aload_n 0, 1) := by decide +kernel
theorem dX8_append_24 : decode cX8_append 24 = .ok (.dup, 1) := by decide +kernel
theorem dX8_append_25 : decode cX8_append 25 = .ok (.getfield 43, 3) := by decide +kernel
theorem dX8_append_28 : decode cX8_append 28 = .ok (.iconst 1, 1) := by decide +kernel
theorem dX8_append_29 : decode cX8_append 29 = .ok (.iadd, 1) := by decide +kernel
theorem dX8_append_30 : decode cX8_append 30 = .ok (.putfield 43, 3) := by decide +kernel
theorem dX8_append_33 : decode cX8_append 33 = .ok (.return_, 1) := by decide +kernel
theorem dX8_begin_0 : decode cX8_begin 0 = .ok (.aload_n 0, 1) := by decide +kernel
theorem dX8_begin_1 : decode cX8_begin 1 = .ok (.iconst 0, 1) := by decide +kernel
theorem dX8_begin_2 : decode cX8_begin 2 = .ok (.putfield 45, 3) := by decide +kernel
theorem dX8_begin_5 : decode cX8_begin 5 = .ok (.aload_n 0, 1) := by decide +kernel
theorem dX8_begin_6 : decode cX8_begin 6 = .ok (.iconst 0, 1) := by decide +kernel
theorem dX8_begin_7 : decode cX8_begin 7 = .ok (.putfield 22, 3) := by decide +kernel
theorem dX8_begin_10 : decode cX8_begin 10 = .ok (.aload_n 0, 1) := by decide +kernel
theorem dX8_begin_11 : decode cX8_begin 11 = .ok (.iconst (-1), 1) := by decide +kernel
theorem dX8_begin_12 : decode cX8_begin 12 = .ok (.putfield 26, 3) := by decide +kernel
theorem dX8_begin_15 : decode cX8_begin 15 = .ok (.return_, 1) := by decide +kernel
theorem dX8_fail_0 : decode cX8_fail 0 = .ok (.aload_n 0, 1) := by decide +kernel
theorem dX8_fail_1 : decode cX8_fail 1 = .ok (.iload_n 1, 1) := by decide +kernel
theorem dX8_fail_2 : decode cX8_fail 2 = .ok (.putfield 22, 3) := by decide +kernel
theorem dX8_fail_5 : decode cX8_fail 5 = .ok (.aload_n 0, 1) := by decide +kernel
theorem dX8_fail_6 : decode cX8_fail 6 = .ok (.aload_n 0, 1) := by decide +kernel
theorem dX8_fail_7 : decode cX8_fail 7 = .ok (.getfield 48, 3) := by decide +kernel
theorem dX8_fail_10 : decode cX8_fail 10 = .ok (.putfield 26, 3) := by decide +kernel
theorem dX8_fail_13 : decode cX8_fail 13 = .ok (.iconst 0, 1) := by decide +kernel
theorem dX8_fail_14 : decode cX8_fail 14 = .ok (.ireturn, 1) := by decide +kernel
theorem dX8_advance_0 : decode cX8_advance 0 = .ok (.aload_n 0, 1) := by decide +kernel
theorem dX8_advance_1 : decode cX8_advance 1 = .ok (.getfield 45, 3) := by decide +kernel
theorem dX8_advance_4 : decode cX8_advance 4 = .ok (.aload_n 0, 1) := by decide +kernel
theorem dX8_advance_5 : decode cX8_advance 5 = .ok (.getfield 43, 3) := by decide +kernel
theorem dX8_advance_8 : decode cX8_advance 8 = .ok (.if_icmp .ge 32, 3) := by decide +kernel
theorem dX8_advance_11 : decode cX8_advance 11 = .ok (.aload_n 0, 1) := by decide +kernel
theorem dX8_advance_12 : decode cX8_advance 12 = .ok (.getfield 9, 3) := by decide +kernel
theorem dX8_advance_15 : decode cX8_advance 15 = .ok (.aload_n 0, 1) := by decide +kernel
theorem dX8_advance_16 : decode cX8_advance 16 = .ok (.getfield 45, 3) := by decide +kernel
theorem dX8_advance_19 : decode cX8_advance 19 = .ok (.baload, 1) := by decide +kernel
theorem dX8_advance_20 : decode cX8_advance 20 = .ok (.invokestatic 51, 3) := by decide +kernel
theorem dX8_advance_23 : decode cX8_advance 23 = .ok (.iconst 4, 1) := by decide +kernel
theorem dX8_advance_24 : decode cX8_advance 24 = .ok (.if_icmp .ne 16, 3) := by decide +kernel
theorem dX8_advance_27 : decode cX8_advance 27 = .ok (.aload_n 0, 1) := by decide +kernel
theorem dX8_advance_28 : decode cX8_advance 28 = .ok (.dup, 1) := by decide +kernel
theorem dX8_advance_29 : decode cX8_advance 29 = .ok (.getfield 45, 3) := by decide +kernel
theorem dX8_advance_32 : decode cX8_advance 32 = .ok (.iconst 1, 1) := by decide +kernel
theorem dX8_advance_33 : decode cX8_advance 33 = .ok (.iadd, 1) := by decide +kernel
theorem dX8_advance_34 : decode cX8_advance 34 = .ok (.putfield 45, 3) := by decide +kernel
theorem dX8_advance_37 : decode cX8_advance 37 = .ok (.goto (-37), 3) := by decide +kernel
theorem dX8_advance_40 : decode cX8_advance 40 = .ok (.aload_n 0, 1) := by decide +kernel
theorem dX8_advance_41 : decode cX8_advance 41 = .ok (.aload_n 0, 1) := by decide +kernel
theorem dX8_advance_42 : decode cX8_advance 42 = .ok (.getfield 45, 3) := by decide +kernel
theorem dX8_advance_45 : decode cX8_advance 45 = .ok (.putfield 48, 3) := by decide +kernel
theorem dX8_advance_48 : decode cX8_advance 48 = .ok (.aload_n 0, 1) := by decide +kernel
theorem dX8_advance_49 : decode cX8_advance 49 = .ok (.getfield 45, 3) := by decide +kernel
theorem dX8_advance_52 : decode cX8_advance 52 = .ok (.aload_n 0, 1) := by decide +kernel
theorem dX8_advance_53 : decode cX8_advance 53 = .ok (.getfield 43, 3) := by decide +kernel
theorem dX8_advance_56 : decode cX8_advance 56 = .ok (.if_icmp .lt 10, 3) := by decide +kernel
theorem dX8_advance_59 : decode cX8_advance 59 = .ok (.aload_n 0, 1) := by decide +kernel
theorem dX8_advance_60 : decode cX8_advance 60 = .ok (.iconst 0, 1) := by decide +kernel
theorem dX8_advance_61 : decode cX8_advance 61 = .ok (.putfield 55, 3) := by decide +kernel
theorem dX8_advance_64 : decode cX8_advance 64 = .ok (.iconst 0, 1) := by decide +kernel
theorem dX8_advance_65 : decode cX8_advance 65 = .ok (.ireturn, 1) := by decide +kernel
theorem dX8_advance_66 : decode cX8_advance 66 = .ok (.aload_n 0, 1) := by decide +kernel
theorem dX8_advance_67 : decode cX8_advance 67 = .ok (.aload_n 0, 1) := by decide +kernel
theorem dX8_advance_68 : decode cX8_advance 68 = .ok (.getfield 9, 3) := by decide +kernel
theorem dX8_advance_71 : decode cX8_advance 71 = .ok (.aload_n 0, 1) := by decide +kernel
theorem dX8_advance_72 : decode cX8_advance 72 = .ok (.getfield 45, 3) := by decide +kernel
theorem dX8_advance_75 : decode cX8_advance 75 = .ok (.baload, 1) := by decide +kernel
theorem dX8_advance_76 : decode cX8_advance 76 = .ok (.invokestatic 51, 3) := by decide +kernel
theorem dX8_advance_79 : decode cX8_advance 79 = .ok (.putfield 55, 3) := by decide +kernel
theorem dX8_advance_82 : decode cX8_advance 82 = .ok (.aload_n 0, 1) := by decide +kernel
theorem dX8_advance_83 : decode cX8_advance 83 = .ok (.dup, 1) := by decide +kernel
theorem dX8_advance_84 : decode cX8_advance 84 = .ok (.getfield 45, 3) := by decide +kernel
theorem dX8_advance_87 : decode cX8_advance 87 = .ok (.iconst 1, 1) := by decide +kernel
theorem dX8_advance_88 : decode cX8_advance 88 = .ok (.iadd, 1) := by decide +kernel
theorem dX8_advance_89 : decode cX8_advance 89 = .ok (.putfield 45, 3) := by decide +kernel
theorem dX8_advance_92 : decode cX8_advance 92 = .ok (.aload_n 0, 1) := by decide +kernel
theorem dX8_advance_93 : decode cX8_advance 93 = .ok (.getfield 55, 3) := by decide +kernel
theorem dX8_advance_96 : decode cX8_advance 96 = .ok (.iconst 1, 1) := by decide +kernel
theorem dX8_advance_97 : decode cX8_advance 97 = .ok (.if_icmp .eq 11, 3) := by decide +kernel
theorem dX8_advance_100 : decode cX8_advance 100 = .ok (.aload_n 0, 1) := by decide +kernel
theorem dX8_advance_101 : decode cX8_advance 101 = .ok (.getfield 55, 3) := by decide +kernel
theorem dX8_advance_104 : decode cX8_advance 104 = .ok (.iconst 2, 1) := by decide +kernel
theorem dX8_advance_105 : decode cX8_advance 105 = .ok (.if_icmp .ne 7, 3) := by decide +kernel
theorem dX8_advance_108 : decode cX8_advance 108 = .ok (.iconst 1, 1) := by decide +kernel
theorem dX8_advance_109 : decode cX8_advance 109 = .ok (.goto 4, 3) := by decide +kernel
theorem dX8_advance_112 : decode cX8_advance 112 = .ok (.iconst 0, 1) := by decide +kernel
theorem dX8_advance_113 : decode cX8_advance 113 = .ok (.istore_n 1, 1) := by decide +kernel
theorem dX8_advance_114 : decode cX8_advance 114 = .ok (.iload_n 1, 1) := by decide +kernel
theorem dX8_advance_115 : decode cX8_advance 115 = .ok (.ifCond .eq 46, 3) := by decide +kernel
theorem dX8_advance_118 : decode cX8_advance 118 = .ok (.aload_n 0, 1) := by decide +kernel
theorem dX8_advance_119 : decode cX8_advance 119 = .ok (.getfield 45, 3) := by decide +kernel
theorem dX8_advance_122 : decode cX8_advance 122 = .ok (.aload_n 0, 1) := by decide +kernel
theorem dX8_advance_123 : decode cX8_advance 123 = .ok (.getfield 43, 3) := by decide +kernel
theorem dX8_advance_126 : decode cX8_advance 126 = .ok (.if_icmp .ge 35, 3) := by decide +kernel
theorem dX8_advance_129 : decode cX8_advance 129 = .ok (.aload_n 0, 1) := by decide +kernel
theorem dX8_advance_130 : decode cX8_advance 130 = .ok (.getfield 9, 3) := by decide +kernel
theorem dX8_advance_133 : decode cX8_advance 133 = .ok (.aload_n 0, 1) := by decide +kernel
theorem dX8_advance_134 : decode cX8_advance 134 = .ok (.getfield 45, 3) := by decide +kernel
theorem dX8_advance_137 : decode cX8_advance 137 = .ok (.baload, 1) := by decide +kernel
theorem dX8_advance_138 : decode cX8_advance 138 = .ok (.invokestatic 51, 3) := by decide +kernel
theorem dX8_advance_141 : decode cX8_advance 141 = .ok (.aload_n 0, 1) := by decide +kernel
theorem dX8_advance_142 : decode cX8_advance 142 = .ok (.getfield 55, 3) := by decide +kernel
theorem dX8_advance_145 : decode cX8_advance 145 = .ok (.if_icmp .ne 16, 3) := by decide +kernel
theorem dX8_advance_148 : decode cX8_advance 148 = .ok (.aload_n 0, 1) := by decide +kernel
theorem dX8_advance_149 : decode cX8_advance 149 = .ok (.dup, 1) := by decide +kernel
theorem dX8_advance_150 : decode cX8_advance 150 = .ok (.getfield 45, 3) := by decide +kernel
theorem dX8_advance_153 : decode cX8_advance 153 = .ok (.iconst 1, 1) := by decide +kernel
theorem dX8_advance_154 : decode cX8_advance 154 = .ok (.iadd, 1) := by decide +kernel
theorem dX8_advance_155 : decode cX8_advance 155 = .ok (.putfield 45, 3) := by decide +kernel
theorem dX8_advance_158 : decode cX8_advance 158 = .ok (.goto (-44), 3) := by decide +kernel
theorem dX8_advance_161 : decode cX8_advance 161 = .ok (.aload_n 0, 1) := by decide +kernel
theorem dX8_advance_162 : decode cX8_advance 162 = .ok (.getfield 55, 3) := by decide +kernel
theorem dX8_advance_165 : decode cX8_advance 165 = .ok (.iconst 1, 1) := by decide +kernel
theorem dX8_advance_166 : decode cX8_advance 166 = .ok (.if_icmp .ne 12, 3) := by decide +kernel
theorem dX8_advance_169 : decode cX8_advance 169 = .ok (.aload_n 0, 1) := by decide +kernel
theorem dX8_advance_170 : decode cX8_advance 170 = .ok (.invokevirtual 58, 3) := by decide +kernel
theorem dX8_advance_173 : decode cX8_advance 173 = .ok (.bipush 8, 2) := by decide +kernel
theorem dX8_advance_175 : decode cX8_advance 175 = .ok (.if_icmp .gt 19, 3) := by decide +kernel
theorem dX8_advance_178 : decode cX8_advance 178 = .ok (.aload_n 0, 1) := by decide +kernel
theorem dX8_advance_179 : decode cX8_advance 179 = .ok (.getfield 55, 3) := by decide +kernel
theorem dX8_advance_182 : decode cX8_advance 182 = .ok (.iconst 2, 1) := by decide +kernel
theorem dX8_advance_183 : decode cX8_advance 183 = .ok (.if_icmp .ne 16, 3) := by decide +kernel
theorem dX8_advance_186 : decode cX8_advance 186 = .ok (.aload_n 0, 1) := by decide +kernel
theorem dX8_advance_187 : decode cX8_advance 187 = .ok (.invokevirtual 58, 3) := by decide +kernel
theorem dX8_advance_190 : decode cX8_advance 190 = .ok (.iconst 4, 1) := by decide +kernel
theorem dX8_advance_191 : decode cX8_advance 191 = .ok (.if_icmp .le 8, 3) := by decide +kernel
theorem dX8_advance_194 : decode cX8_advance 194 = .ok (.aload_n 0, 1) := by decide +kernel
theorem dX8_advance_195 : decode cX8_advance 195 = .ok (.iconst 5, 1) := by decide +kernel
theorem dX8_advance_196 : decode cX8_advance 196 = .ok (.putfield 55, 3) := by decide +kernel
theorem dX8_advance_199 : decode cX8_advance 199 = .ok (.iconst 1, 1) := by decide +kernel
theorem dX8_advance_200 : decode cX8_advance 200 = .ok (.ireturn, 1) := by decide +kernel
theorem dX8_tokenLength_0 : decode cX8_tokenLength 0 = .ok (.aload_n 0, 1) := by decide +kernel
theorem dX8_tokenLength_1 : decode cX8_tokenLength 1 = .ok (.getfield 45, 3) := by decide +kernel
theorem dX8_tokenLength_4 : decode cX8_tokenLength 4 = .ok (.aload_n 0, 1) := by decide +kernel
theorem dX8_tokenLength_5 : decode cX8_tokenLength 5 = .ok (.getfield 48, 3) := by decide +kernel
theorem dX8_tokenLength_8 : decode cX8_tokenLength 8 = .ok (.isub, 1) := by decide +kernel
theorem dX8_tokenLength_9 : decode cX8_tokenLength 9 = .ok (.ireturn, 1) := by decide +kernel
theorem dX8_kindOf_0 : decode cX8_kindOf 0 = .ok (.iload_n 0, 1) := by decide +kernel
theorem dX8_kindOf_1 : decode cX8_kindOf 1 = .ok (.bipush 97, 2) := by decide +kernel
theorem dX8_kindOf_3 : decode cX8_kindOf 3 = .ok (.if_icmp .lt 11, 3) := by decide +kernel
theorem dX8_kindOf_6 : decode cX8_kindOf 6 = .ok (.iload_n 0, 1) := by decide +kernel
theorem dX8_kindOf_7 : decode cX8_kindOf 7 = .ok (.bipush 122, 2) := by decide +kernel
theorem dX8_kindOf_9 : decode cX8_kindOf 9 = .ok (.if_icmp .gt 5, 3) := by decide +kernel
theorem dX8_kindOf_12 : decode cX8_kindOf 12 = .ok (.iconst 1, 1) := by decide +kernel
theorem dX8_kindOf_13 : decode cX8_kindOf 13 = .ok (.ireturn, 1) := by decide +kernel
theorem dX8_kindOf_14 : decode cX8_kindOf 14 = .ok (.iload_n 0, 1) := by decide +kernel
theorem dX8_kindOf_15 : decode cX8_kindOf 15 = .ok (.bipush 48, 2) := by decide +kernel
theorem dX8_kindOf_17 : decode cX8_kindOf 17 = .ok (.if_icmp .lt 11, 3) := by decide +kernel
theorem dX8_kindOf_20 : decode cX8_kindOf 20 = .ok (.iload_n 0, 1) := by decide +kernel
theorem dX8_kindOf_21 : decode cX8_kindOf 21 = .ok (.bipush 57, 2) := by decide +kernel
theorem dX8_kindOf_23 : decode cX8_kindOf 23 = .ok (.if_icmp .gt 5, 3) := by decide +kernel
theorem dX8_kindOf_26 : decode cX8_kindOf 26 = .ok (.iconst 2, 1) := by decide +kernel
theorem dX8_kindOf_27 : decode cX8_kindOf 27 = .ok (.ireturn, 1) := by decide +kernel
theorem dX8_kindOf_28 : decode cX8_kindOf 28 = .ok (.iload_n 0, 1) := by decide +kernel
theorem dX8_kindOf_29 : decode cX8_kindOf 29 = .ok (.bipush 59, 2) := by decide +kernel
theorem dX8_kindOf_31 : decode cX8_kindOf 31 = .ok (.if_icmp .ne 5, 3) := by decide +kernel
theorem dX8_kindOf_34 : decode cX8_kindOf 34 = .ok (.iconst 3, 1) := by decide +kernel
theorem dX8_kindOf_35 : decode cX8_kindOf 35 = .ok (.ireturn, 1) := by decide +kernel
theorem dX8_kindOf_36 : decode cX8_kindOf 36 = .ok (.iload_n 0, 1) := by decide +kernel
theorem dX8_kindOf_37 : decode cX8_kindOf 37 = .ok (.bipush 32, 2) := by decide +kernel
theorem dX8_kindOf_39 : decode cX8_kindOf 39 = .ok (.if_icmp .eq 9, 3) := by decide +kernel
theorem dX8_kindOf_42 : decode cX8_kindOf 42 = .ok (.iload_n 0, 1) := by decide +kernel
theorem dX8_kindOf_43 : decode cX8_kindOf 43 = .ok (.bipush 10, 2) := by decide +kernel
theorem dX8_kindOf_45 : decode cX8_kindOf 45 = .ok (.if_icmp .ne 7, 3) := by decide +kernel
theorem dX8_kindOf_48 : decode cX8_kindOf 48 = .ok (.iconst 4, 1) := by decide +kernel
theorem dX8_kindOf_49 : decode cX8_kindOf 49 = .ok (.goto 4, 3) := by decide +kernel
theorem dX8_kindOf_52 : decode cX8_kindOf 52 = .ok (.iconst 5, 1) := by decide +kernel
theorem dX8_kindOf_53 : decode cX8_kindOf 53 = .ok (.ireturn, 1) := by decide +kernel
theorem dX8_isWord_0 : decode cX8_isWord 0 = .ok (.aload_n 0, 1) := by decide +kernel
theorem dX8_isWord_1 : decode cX8_isWord 1 = .ok (.getfield 55, 3) := by decide +kernel
theorem dX8_isWord_4 : decode cX8_isWord 4 = .ok (.iconst 1, 1) := by decide +kernel
theorem dX8_isWord_5 : decode cX8_isWord 5 = .ok (.if_icmp .ne 14, 3) := by decide +kernel
theorem dX8_isWord_8 : decode cX8_isWord 8 = .ok (.aload_n 0, 1) := by decide +kernel
theorem dX8_isWord_9 : decode cX8_isWord 9 = .ok (.invokevirtual 58, 3) := by decide +kernel
theorem dX8_isWord_12 : decode cX8_isWord 12 = .ok (.aload_n 1, 1) := by decide +kernel
theorem dX8_isWord_13 : decode cX8_isWord 13 = .ok (.invokevirtual 33, 3) := by decide +kernel
theorem dX8_isWord_16 : decode cX8_isWord 16 = .ok (.if_icmp .eq 5, 3) := by decide +kernel
theorem dX8_isWord_19 : decode cX8_isWord 19 = .ok (.iconst 0, 1) := by decide +kernel
theorem dX8_isWord_20 : decode cX8_isWord 20 = .ok (.ireturn, 1) := by decide +kernel
theorem dX8_isWord_21 : decode cX8_isWord 21 = .ok (.iconst 0, 1) := by decide +kernel
theorem dX8_isWord_22 : decode cX8_isWord 22 = .ok (.istore_n 2, 1) := by decide +kernel
theorem dX8_isWord_23 : decode cX8_isWord 23 = .ok (.iload_n 2, 1) := by decide +kernel
theorem dX8_isWord_24 : decode cX8_isWord 24 = .ok (.aload_n 1, 1) := by decide +kernel
theorem dX8_isWord_25 : decode cX8_isWord 25 = .ok (.invokevirtual 33, 3) := by decide +kernel
theorem dX8_isWord_28 : decode cX8_isWord 28 = .ok (.if_icmp .ge 30, 3) := by decide +kernel
theorem dX8_isWord_31 : decode cX8_isWord 31 = .ok (.aload_n 0, 1) := by decide +kernel
theorem dX8_isWord_32 : decode cX8_isWord 32 = .ok (.getfield 9, 3) := by decide +kernel
theorem dX8_isWord_35 : decode cX8_isWord 35 = .ok (.aload_n 0, 1) := by decide +kernel
theorem dX8_isWord_36 : decode cX8_isWord 36 = .ok (.getfield 48, 3) := by decide +kernel
theorem dX8_isWord_39 : decode cX8_isWord 39 = .ok (.iload_n 2, 1) := by decide +kernel
theorem dX8_isWord_40 : decode cX8_isWord 40 = .ok (.iadd, 1) := by decide +kernel
theorem dX8_isWord_41 : decode cX8_isWord 41 = .ok (.baload, 1) := by decide +kernel
theorem dX8_isWord_42 : decode cX8_isWord 42 = .ok (.aload_n 1, 1) := by decide +kernel
theorem dX8_isWord_43 : decode cX8_isWord 43 = .ok (.iload_n 2, 1) := by decide +kernel
theorem dX8_isWord_44 : decode cX8_isWord 44 = .ok (.invokevirtual 39, 3) := by decide +kernel
theorem dX8_isWord_47 : decode cX8_isWord 47 = .ok (.if_icmp .eq 5, 3) := by decide +kernel
theorem dX8_isWord_50 : decode cX8_isWord 50 = .ok (.iconst 0, 1) := by decide +kernel
theorem dX8_isWord_51 : decode cX8_isWord 51 = .ok (.ireturn, 1) := by decide +kernel
theorem dX8_isWord_52 : decode cX8_isWord 52 = .ok (.iinc 2 1, 3) := by decide +kernel
theorem dX8_isWord_55 : decode cX8_isWord 55 = .ok (.goto (-32), 3) := by decide +kernel
theorem dX8_isWord_58 : decode cX8_isWord 58 = .ok (.iconst 1, 1) := by decide +kernel
theorem dX8_isWord_59 : decode cX8_isWord 59 = .ok (.ireturn, 1) := by decide +kernel
theorem dX8_word_0 : decode cX8_word 0 = .ok (.aload_n 0, 1) := by decide +kernel
theorem dX8_word_1 : decode cX8_word 1 = .ok (.getfield 18, 3) := by decide +kernel
theorem dX8_word_4 : decode cX8_word 4 = .ok (.iconst 0, 1) := by decide +kernel
theorem dX8_word_5 : decode cX8_word 5 = .ok (.invokevirtual 61, 3) := by decide +kernel
theorem dX8_word_8 : decode cX8_word 8 = .ok (.aload_n 0, 1) := by decide +kernel
theorem dX8_word_9 : decode cX8_word 9 = .ok (.getfield 48, 3) := by decide +kernel
theorem dX8_word_12 : decode cX8_word 12 = .ok (.istore_n 1, 1) := by decide +kernel
theorem dX8_word_13 : decode cX8_word 13 = .ok (.iload_n 1, 1) := by decide +kernel
theorem dX8_word_14 : decode cX8_word 14 = .ok (.aload_n 0, 1) := by decide +kernel
theorem dX8_word_15 : decode cX8_word 15 = .ok (.getfield 45, 3) := by decide +kernel
theorem dX8_word_18 : decode cX8_word 18 = .ok (.if_icmp .ge 24, 3) := by decide +kernel
theorem dX8_word_21 : decode cX8_word 21 = .ok (.aload_n 0, 1) := by decide +kernel
theorem dX8_word_22 : decode cX8_word 22 = .ok (.getfield 18, 3) := by decide +kernel
theorem dX8_word_25 : decode cX8_word 25 = .ok (.aload_n 0, 1) := by decide +kernel
theorem dX8_word_26 : decode cX8_word 26 = .ok (.getfield 9, 3) := by decide +kernel
theorem dX8_word_29 : decode cX8_word 29 = .ok (.iload_n 1, 1) := by decide +kernel
theorem dX8_word_30 : decode cX8_word 30 = .ok (.baload, 1) := by decide +kernel
theorem dX8_word_31 : decode cX8_word 31 = .ok (.i2c, 1) := by decide +kernel
theorem dX8_word_32 : decode cX8_word 32 = .ok (.invokevirtual 64, 3) := by decide +kernel
theorem dX8_word_35 : decode cX8_word 35 = .ok (.pop, 1) := by decide +kernel
theorem dX8_word_36 : decode cX8_word 36 = .ok (.iinc 1 1, 3) := by decide +kernel
theorem dX8_word_39 : decode cX8_word 39 = .ok (.goto (-26), 3) := by decide +kernel
theorem dX8_word_42 : decode cX8_word 42 = .ok (.aload_n 0, 1) := by decide +kernel
theorem dX8_word_43 : decode cX8_word 43 = .ok (.getfield 18, 3) := by decide +kernel
theorem dX8_word_46 : decode cX8_word 46 = .ok (.invokevirtual 67, 3) := by decide +kernel
theorem dX8_word_49 : decode cX8_word 49 = .ok (.areturn, 1) := by decide +kernel
theorem dX8_takeName_0 : decode cX8_takeName 0 = .ok (.aload_n 0, 1) := by decide +kernel
theorem dX8_takeName_1 : decode cX8_takeName 1 = .ok (.invokevirtual 71, 3) := by decide +kernel
theorem dX8_takeName_4 : decode cX8_takeName 4 = .ok (.pop, 1) := by decide +kernel
theorem dX8_takeName_5 : decode cX8_takeName 5 = .ok (.aload_n 0, 1) := by decide +kernel
theorem dX8_takeName_6 : decode cX8_takeName 6 = .ok (.getfield 55, 3) := by decide +kernel
theorem dX8_takeName_9 : decode cX8_takeName 9 = .ok (.iconst 1, 1) := by decide +kernel
theorem dX8_takeName_10 : decode cX8_takeName 10 = .ok (.if_icmp .ne 12, 3) := by decide +kernel
theorem dX8_takeName_13 : decode cX8_takeName 13 = .ok (.aload_n 0, 1) := by decide +kernel
theorem dX8_takeName_14 : decode cX8_takeName 14 = .ok (.invokevirtual 58, 3) := by decide +kernel
theorem dX8_takeName_17 : decode cX8_takeName 17 = .ok (.bipush 6, 2) := by decide +kernel
theorem dX8_takeName_19 : decode cX8_takeName 19 = .ok (.if_icmp .le 11, 3) := by decide +kernel
theorem dX8_takeName_22 : decode cX8_takeName 22 = .ok (.aload_n 0, 1) := by decide +kernel
theorem dX8_takeName_23 : decode cX8_takeName 23 = .ok (.iconst 1, 1) := by decide +kernel
theorem dX8_takeName_24 : decode cX8_takeName 24 = .ok (.invokevirtual 75, 3) := by decide +kernel
theorem dX8_takeName_27 : decode cX8_takeName 27 = .ok (.ifCond .eq 7, 3) := by decide +kernel
theorem dX8_takeName_30 : decode cX8_takeName 30 = .ok (.iconst 1, 1) := by decide +kernel
theorem dX8_takeName_31 : decode cX8_takeName 31 = .ok (.goto 4, 3) := by decide +kernel
theorem dX8_takeName_34 : decode cX8_takeName 34 = .ok (.iconst 0, 1) := by decide +kernel
theorem dX8_takeName_35 : decode cX8_takeName 35 = .ok (.ireturn, 1) := by decide +kernel
theorem dX8_takeEither_0 : decode cX8_takeEither 0 = .ok (.aload_n 0, 1) := by decide +kernel
theorem dX8_takeEither_1 : decode cX8_takeEither 1 = .ok (.invokevirtual 71, 3) := by decide +kernel
theorem dX8_takeEither_4 : decode cX8_takeEither 4 = .ok (.pop, 1) := by decide +kernel
theorem dX8_takeEither_5 : decode cX8_takeEither 5 = .ok (.aload_n 0, 1) := by decide +kernel
theorem dX8_takeEither_6 : decode cX8_takeEither 6 = .ok (.aload_n 1, 1) := by decide +kernel
theorem dX8_takeEither_7 : decode cX8_takeEither 7 = .ok (.invokevirtual 79, 3) := by decide +kernel
theorem dX8_takeEither_10 : decode cX8_takeEither 10 = .ok (.ifCond .ne 19, 3) := by decide +kernel
theorem dX8_takeEither_13 : decode cX8_takeEither 13 = .ok (.aload_n 0, 1) := by decide +kernel
theorem dX8_takeEither_14 : decode cX8_takeEither 14 = .ok (.aload_n 2, 1) := by decide +kernel
theorem dX8_takeEither_15 : decode cX8_takeEither 15 = .ok (.invokevirtual 79, 3) := by decide +kernel
theorem dX8_takeEither_18 : decode cX8_takeEither 18 = .ok (.ifCond .ne 11, 3) := by decide +kernel
theorem dX8_takeEither_21 : decode cX8_takeEither 21 = .ok (.aload_n 0, 1) := by decide +kernel
theorem dX8_takeEither_22 : decode cX8_takeEither 22 = .ok (.iconst 1, 1) := by decide +kernel
theorem dX8_takeEither_23 : decode cX8_takeEither 23 = .ok (.invokevirtual 75, 3) := by decide +kernel
theorem dX8_takeEither_26 : decode cX8_takeEither 26 = .ok (.ifCond .eq 7, 3) := by decide +kernel
theorem dX8_takeEither_29 : decode cX8_takeEither 29 = .ok (.iconst 1, 1) := by decide +kernel
theorem dX8_takeEither_30 : decode cX8_takeEither 30 = .ok (.goto 4, 3) := by decide +kernel
theorem dX8_takeEither_33 : decode cX8_takeEither 33 = .ok (.iconst 0, 1) := by decide +kernel
theorem dX8_takeEither_34 : decode cX8_takeEither 34 = .ok (.ireturn, 1) := by decide +kernel
theorem dX8_takeSemicolon_0 : decode cX8_takeSemicolon 0 = .ok (.aload_n 0, 1) := by decide +kernel
theorem dX8_takeSemicolon_1 : decode cX8_takeSemicolon 1 = .ok (.invokevirtual 71, 3) := by decide +kernel
theorem dX8_takeSemicolon_4 : decode cX8_takeSemicolon 4 = .ok (.pop, 1) := by decide +kernel
theorem dX8_takeSemicolon_5 : decode cX8_takeSemicolon 5 = .ok (.aload_n 0, 1) := by decide +kernel
theorem dX8_takeSemicolon_6 : decode cX8_takeSemicolon 6 = .ok (.getfield 55, 3) := by decide +kernel
theorem dX8_takeSemicolon_9 : decode cX8_takeSemicolon 9 = .ok (.iconst 3, 1) := by decide +kernel
theorem dX8_takeSemicolon_10 : decode cX8_takeSemicolon 10 = .ok (.if_icmp .eq 11, 3) := by decide +kernel
theorem dX8_takeSemicolon_13 : decode cX8_takeSemicolon 13 = .ok (.aload_n 0, 1) := by decide +kernel
theorem dX8_takeSemicolon_14 : decode cX8_takeSemicolon 14 = .ok (.iconst 1, 1) := by decide +kernel
theorem dX8_takeSemicolon_15 : decode cX8_takeSemicolon 15 = .ok (.invokevirtual 75, 3) := by decide +kernel
theorem dX8_takeSemicolon_18 : decode cX8_takeSemicolon 18 = .ok (.ifCond .eq 7, 3) := by decide +kernel
theorem dX8_takeSemicolon_21 : decode cX8_takeSemicolon 21 = .ok (.iconst 1, 1) := by decide +kernel
theorem dX8_takeSemicolon_22 : decode cX8_takeSemicolon 22 = .ok (.goto 4, 3) := by decide +kernel
theorem dX8_takeSemicolon_25 : decode cX8_takeSemicolon 25 = .ok (.iconst 0, 1) := by decide +kernel
theorem dX8_takeSemicolon_26 : decode cX8_takeSemicolon 26 = .ok (.ireturn, 1) := by decide +kernel
theorem dX8_takeNumber_0 : decode cX8_takeNumber 0 = .ok (.aload_n 0, 1) := by decide +kernel
theorem dX8_takeNumber_1 : decode cX8_takeNumber 1 = .ok (.invokevirtual 71, 3) := by decide +kernel
theorem dX8_takeNumber_4 : decode cX8_takeNumber 4 = .ok (.pop, 1) := by decide +kernel
theorem dX8_takeNumber_5 : decode cX8_takeNumber 5 = .ok (.aload_n 0, 1) := by decide +kernel
theorem dX8_takeNumber_6 : decode cX8_takeNumber 6 = .ok (.getfield 55, 3) := by decide +kernel
theorem dX8_takeNumber_9 : decode cX8_takeNumber 9 = .ok (.iconst 2, 1) := by decide +kernel
theorem dX8_takeNumber_10 : decode cX8_takeNumber 10 = .ok (.if_icmp .eq 9, 3) := by decide +kernel
theorem dX8_takeNumber_13 : decode cX8_takeNumber 13 = .ok (.aload_n 0, 1) := by decide +kernel
theorem dX8_takeNumber_14 : decode cX8_takeNumber 14 = .ok (.iconst 1, 1) := by decide +kernel
theorem dX8_takeNumber_15 : decode cX8_takeNumber 15 = .ok (.invokevirtual 75, 3) := by decide +kernel
theorem dX8_takeNumber_18 : decode cX8_takeNumber 18 = .ok (.ireturn, 1) := by decide +kernel
theorem dX8_takeNumber_19 : decode cX8_takeNumber 19 = .ok (.aload_n 0, 1) := by decide +kernel
theorem dX8_takeNumber_20 : decode cX8_takeNumber 20 = .ok (.iconst 0, 1) := by decide +kernel
theorem dX8_takeNumber_21 : decode cX8_takeNumber 21 = .ok (.putfield 83, 3) := by decide +kernel
theorem dX8_takeNumber_24 : decode cX8_takeNumber 24 = .ok (.aload_n 0, 1) := by decide +kernel
theorem dX8_takeNumber_25 : decode cX8_takeNumber 25 = .ok (.getfield 48, 3) := by decide +kernel
theorem dX8_takeNumber_28 : decode cX8_takeNumber 28 = .ok (.istore_n 3, 1) := by decide +kernel
theorem dX8_takeNumber_29 : decode cX8_takeNumber 29 = .ok (.iload_n 3, 1) := by decide +kernel
theorem dX8_takeNumber_30 : decode cX8_takeNumber 30 = .ok (.aload_n 0, 1) := by decide +kernel
theorem dX8_takeNumber_31 : decode cX8_takeNumber 31 = .ok (.getfield 45, 3) := by decide +kernel
theorem dX8_takeNumber_34 : decode cX8_takeNumber 34 = .ok (.if_icmp .ge 30, 3) := by decide +kernel
theorem dX8_takeNumber_37 : decode cX8_takeNumber 37 = .ok (.aload_n 0, 1) := by decide +kernel
theorem dX8_takeNumber_38 : decode cX8_takeNumber 38 = .ok (.aload_n 0, 1) := by decide +kernel
theorem dX8_takeNumber_39 : decode cX8_takeNumber 39 = .ok (.getfield 83, 3) := by decide +kernel
theorem dX8_takeNumber_42 : decode cX8_takeNumber 42 = .ok (.bipush 10, 2) := by decide +kernel
theorem dX8_takeNumber_44 : decode cX8_takeNumber 44 = .ok (.imul, 1) := by decide +kernel
theorem dX8_takeNumber_45 : decode cX8_takeNumber 45 = .ok (.aload_n 0, 1) := by decide +kernel
theorem dX8_takeNumber_46 : decode cX8_takeNumber 46 = .ok (.getfield 9, 3) := by decide +kernel
theorem dX8_takeNumber_49 : decode cX8_takeNumber 49 = .ok (.iload_n 3, 1) := by decide +kernel
theorem dX8_takeNumber_50 : decode cX8_takeNumber 50 = .ok (.baload, 1) := by decide +kernel
theorem dX8_takeNumber_51 : decode cX8_takeNumber 51 = .ok (.iadd, 1) := by decide +kernel
theorem dX8_takeNumber_52 : decode cX8_takeNumber 52 = .ok (.bipush 48, 2) := by decide +kernel
theorem dX8_takeNumber_54 : decode cX8_takeNumber 54 = .ok (.isub, 1) := by decide +kernel
theorem dX8_takeNumber_55 : decode cX8_takeNumber 55 = .ok (.putfield 83, 3) := by decide +kernel
theorem dX8_takeNumber_58 : decode cX8_takeNumber 58 = .ok (.iinc 3 1, 3) := by decide +kernel
theorem dX8_takeNumber_61 : decode cX8_takeNumber 61 = .ok (.goto (-32), 3) := by decide +kernel
theorem dX8_takeNumber_64 : decode cX8_takeNumber 64 = .ok (.aload_n 0, 1) := by decide +kernel
theorem dX8_takeNumber_65 : decode cX8_takeNumber 65 = .ok (.getfield 83, 3) := by decide +kernel
theorem dX8_takeNumber_68 : decode cX8_takeNumber 68 = .ok (.iload_n 1, 1) := by decide +kernel
theorem dX8_takeNumber_69 : decode cX8_takeNumber 69 = .ok (.if_icmp .lt 11, 3) := by decide +kernel
theorem dX8_takeNumber_72 : decode cX8_takeNumber 72 = .ok (.aload_n 0, 1) := by decide +kernel
theorem dX8_takeNumber_73 : decode cX8_takeNumber 73 = .ok (.getfield 83, 3) := by decide +kernel
theorem dX8_takeNumber_76 : decode cX8_takeNumber 76 = .ok (.iload_n 2, 1) := by decide +kernel
theorem dX8_takeNumber_77 : decode cX8_takeNumber 77 = .ok (.if_icmp .le 11, 3) := by decide +kernel
theorem dX8_takeNumber_80 : decode cX8_takeNumber 80 = .ok (.aload_n 0, 1) := by decide +kernel
theorem dX8_takeNumber_81 : decode cX8_takeNumber 81 = .ok (.iconst 2, 1) := by decide +kernel
theorem dX8_takeNumber_82 : decode cX8_takeNumber 82 = .ok (.invokevirtual 75, 3) := by decide +kernel
theorem dX8_takeNumber_85 : decode cX8_takeNumber 85 = .ok (.ifCond .eq 7, 3) := by decide +kernel
theorem dX8_takeNumber_88 : decode cX8_takeNumber 88 = .ok (.iconst 1, 1) := by decide +kernel
theorem dX8_takeNumber_89 : decode cX8_takeNumber 89 = .ok (.goto 4, 3) := by decide +kernel
theorem dX8_takeNumber_92 : decode cX8_takeNumber 92 = .ok (.iconst 0, 1) := by decide +kernel
theorem dX8_takeNumber_93 : decode cX8_takeNumber 93 = .ok (.ireturn, 1) := by decide +kernel
theorem dX9_init_0 : decode cX9_init 0 = .ok (.aload_n 0, 1) := by decide +kernel
theorem dX9_init_1 : decode cX9_init 1 = .ok (.invokespecial 1, 3) := by decide +kernel
theorem dX9_init_4 : decode cX9_init 4 = .ok (.return_, 1) := by decide +kernel
theorem dX9_copyFrom_0 : decode cX9_copyFrom 0 = .ok (.aload_n 0, 1) := by decide +kernel
theorem dX9_copyFrom_1 : decode cX9_copyFrom 1 = .ok (.aload_n 1, 1) := by decide +kernel
theorem dX9_copyFrom_2 : decode cX9_copyFrom 2 = .ok (.getfield 7, 3) := by decide +kernel
theorem dX9_copyFrom_5 : decode cX9_copyFrom 5 = .ok (.putfield 7, 3) := by decide +kernel
theorem dX9_copyFrom_8 : decode cX9_copyFrom 8 = .ok (.aload_n 0, 1) := by decide +kernel
theorem dX9_copyFrom_9 : decode cX9_copyFrom 9 = .ok (.aload_n 1, 1) := by decide +kernel
theorem dX9_copyFrom_10 : decode cX9_copyFrom 10 = .ok (.getfield 13, 3) := by decide +kernel
theorem dX9_copyFrom_13 : decode cX9_copyFrom 13 = .ok (.putfield 13, 3) := by decide +kernel
theorem dX9_copyFrom_16 : decode cX9_copyFrom 16 = .ok (.aload_n 0, 1) := by decide +kernel
theorem dX9_copyFrom_17 : decode cX9_copyFrom 17 = .ok (.aload_n 1, 1) := by decide +kernel
theorem dX9_copyFrom_18 : decode cX9_copyFrom 18 = .ok (.getfield 16, 3) := by decide +kernel
theorem dX9_copyFrom_21 : decode cX9_copyFrom 21 = .ok (.putfield 16, 3) := by decide +kernel
theorem dX9_copyFrom_24 : decode cX9_copyFrom 24 = .ok (.aload_n 0, 1) := by decide +kernel
theorem dX9_copyFrom_25 : decode cX9_copyFrom 25 = .ok (.aload_n 1, 1) := by decide +kernel
theorem dX9_copyFrom_26 : decode cX9_copyFrom 26 = .ok (.getfield 19, 3) := by decide +kernel
theorem dX9_copyFrom_29 : decode cX9_copyFrom 29 = .ok (.putfield 19, 3) := by decide +kernel
theorem dX9_copyFrom_32 : decode cX9_copyFrom 32 = .ok (.aload_n 0, 1) := by decide +kernel
theorem dX9_copyFrom_33 : decode cX9_copyFrom 33 = .ok (.aload_n 1, 1) := by decide +kernel
theorem dX9_copyFrom_34 : decode cX9_copyFrom 34 = .ok (.getfield 22, 3) := by decide +kernel
theorem dX9_copyFrom_37 : decode cX9_copyFrom 37 = .ok (.putfield 22, 3) := by decide +kernel
theorem dX9_copyFrom_40 : decode cX9_copyFrom 40 = .ok (.aload_n 0, 1) := by decide +kernel
theorem dX9_copyFrom_41 : decode cX9_copyFrom 41 = .ok (.aload_n 1, 1) := by decide +kernel
theorem dX9_copyFrom_42 : decode cX9_copyFrom 42 = .ok (.getfield 25, 3) := by decide +kernel
theorem dX9_copyFrom_45 : decode cX9_copyFrom 45 = .ok (.putfield 25, 3) := by decide +kernel
theorem dX9_copyFrom_48 : decode cX9_copyFrom 48 = .ok (.aload_n 0, 1) := by decide +kernel
theorem dX9_copyFrom_49 : decode cX9_copyFrom 49 = .ok (.aload_n 1, 1) := by decide +kernel
theorem dX9_copyFrom_50 : decode cX9_copyFrom 50 = .ok (.getfield 28, 3) := by decide +kernel
theorem dX9_copyFrom_53 : decode cX9_copyFrom 53 = .ok (.putfield 28, 3) := by decide +kernel
theorem dX9_copyFrom_56 : decode cX9_copyFrom 56 = .ok (.aload_n 0, 1) := by decide +kernel
theorem dX9_copyFrom_57 : decode cX9_copyFrom 57 = .ok (.aload_n 1, 1) := by decide +kernel
theorem dX9_copyFrom_58 : decode cX9_copyFrom 58 = .ok (.getfield 31, 3) := by decide +kernel
theorem dX9_copyFrom_61 : decode cX9_copyFrom 61 = .ok (.putfield 31, 3) := by decide +kernel
theorem dX9_copyFrom_64 : decode cX9_copyFrom 64 = .ok (.return_, 1) := by decide +kernel
theorem dX9_clear_0 : decode cX9_clear 0 = .ok (.aload_n 0, 1) := by decide +kernel
theorem dX9_clear_1 : decode cX9_clear 1 = .ok (.iconst 0, 1) := by decide +kernel
theorem dX9_clear_2 : decode cX9_clear 2 = .ok (.putfield 7, 3) := by decide +kernel
theorem dX9_clear_5 : decode cX9_clear 5 = .ok (.aload_n 0, 1) := by decide +kernel
theorem dX9_clear_6 : decode cX9_clear 6 = .ok (.iconst 0, 1) := by decide +kernel
theorem dX9_clear_7 : decode cX9_clear 7 = .ok (.putfield 13, 3) := by decide +kernel
theorem dX9_clear_10 : decode cX9_clear 10 = .ok (.aload_n 0, 1) := by decide +kernel
theorem dX9_clear_11 : decode cX9_clear 11 = .ok (.iconst 0, 1) := by decide +kernel
theorem dX9_clear_12 : decode cX9_clear 12 = .ok (.putfield 16, 3) := by decide +kernel
theorem dX9_clear_15 : decode cX9_clear 15 = .ok (.aload_n 0, 1) := by decide +kernel
theorem dX9_clear_16 : decode cX9_clear 16 = .ok (.iconst 0, 1) := by decide +kernel
theorem dX9_clear_17 : decode cX9_clear 17 = .ok (.putfield 19, 3) := by decide +kernel
theorem dX9_clear_20 : decode cX9_clear 20 = .ok (.aload_n 0, 1) := by decide +kernel
theorem dX9_clear_21 : decode cX9_clear 21 = .ok (.iconst 0, 1) := by decide +kernel
theorem dX9_clear_22 : decode cX9_clear 22 = .ok (.putfield 22, 3) := by decide +kernel
theorem dX9_clear_25 : decode cX9_clear 25 = .ok (.aload_n 0, 1) := by decide +kernel
theorem dX9_clear_26 : decode cX9_clear 26 = .ok (.iconst 0, 1) := by decide +kernel
theorem dX9_clear_27 : decode cX9_clear 27 = .ok (.putfield 25, 3) := by decide +kernel
theorem dX9_clear_30 : decode cX9_clear 30 = .ok (.aload_n 0, 1) := by decide +kernel
theorem dX9_clear_31 : decode cX9_clear 31 = .ok (.iconst 0, 1) := by decide +kernel
theorem dX9_clear_32 : decode cX9_clear 32 = .ok (.putfield 28, 3) := by decide +kernel
theorem dX9_clear_35 : decode cX9_clear 35 = .ok (.aload_n 0, 1) := by decide +kernel
theorem dX9_clear_36 : decode cX9_clear 36 = .ok (.iconst 0, 1) := by decide +kernel
theorem dX9_clear_37 : decode cX9_clear 37 = .ok (.putfield 31, 3) := by decide +kernel
theorem dX9_clear_40 : decode cX9_clear 40 = .ok (.return_, 1) := by decide +kernel
theorem dX10_init_0 : decode cX10_init 0 = .ok (.aload_n 0, 1) := by decide +kernel
theorem dX10_init_1 : decode cX10_init 1 = .ok (.invokespecial 1, 3) := by decide +kernel
theorem dX10_init_4 : decode cX10_init 4 = .ok (.aload_n 0, 1) := by decide +kernel
theorem dX10_init_5 : decode cX10_init 5 = .ok (.new 7, 3) := by decide +kernel
theorem dX10_init_8 : decode cX10_init 8 = .ok (.dup, 1) := by decide +kernel
theorem dX10_init_9 : decode cX10_init 9 = .ok (.invokespecial 9, 3) := by decide +kernel
theorem dX10_init_12 : decode cX10_init 12 = .ok (.putfield 10, 3) := by decide +kernel
theorem dX10_init_15 : decode cX10_init 15 = .ok (.aload_n 0, 1) := by decide +kernel
theorem dX10_init_16 : decode cX10_init 16 = .ok (.new 16, 3) := by decide +kernel
theorem dX10_init_19 : decode cX10_init 19 = .ok (.dup, 1) := by decide +kernel
theorem dX10_init_20 : decode cX10_init 20 = .ok (.invokespecial 18, 3) := by decide +kernel
theorem dX10_init_23 : decode cX10_init 23 = .ok (.putfield 19, 3) := by decide +kernel
theorem dX10_init_26 : decode cX10_init 26 = .ok (.aload_n 0, 1) := by decide +kernel
theorem dX10_init_27 : decode cX10_init 27 = .ok (.new 23, 3) := by decide +kernel
theorem dX10_init_30 : decode cX10_init 30 = .ok (.dup, 1) := by decide +kernel
theorem dX10_init_31 : decode cX10_init 31 = .ok (.invokespecial 25, 3) := by decide +kernel
theorem dX10_init_34 : decode cX10_init 34 = .ok (.putfield 26, 3) := by decide +kernel
theorem dX10_init_37 : decode cX10_init 37 = .ok (.aload_n 0, 1) := by decide +kernel
theorem dX10_init_38 : decode cX10_init 38 = .ok (.new 23, 3) := by decide +kernel
theorem dX10_init_41 : decode cX10_init 41 = .ok (.dup, 1) := by decide +kernel
theorem dX10_init_42 : decode cX10_init 42 = .ok (.invokespecial 25, 3) := by decide +kernel
theorem dX10_init_45 : decode cX10_init 45 = .ok (.putfield 30, 3) := by decide +kernel
theorem dX10_init_48 : decode cX10_init 48 = .ok (.aload_n 0, 1) := by decide +kernel
theorem dX10_init_49 : decode cX10_init 49 = .ok (.new 23, 3) := by decide +kernel
theorem dX10_init_52 : decode cX10_init 52 = .ok (.dup, 1) := by decide +kernel
theorem dX10_init_53 : decode cX10_init 53 = .ok (.invokespecial 25, 3) := by decide +kernel
theorem dX10_init_56 : decode cX10_init 56 = .ok (.putfield 33, 3) := by decide +kernel
theorem dX10_init_59 : decode cX10_init 59 = .ok (.aload_n 0, 1) := by decide +kernel
theorem dX10_init_60 : decode cX10_init 60 = .ok (.new 23, 3) := by decide +kernel
theorem dX10_init_63 : decode cX10_init 63 = .ok (.dup, 1) := by decide +kernel
theorem dX10_init_64 : decode cX10_init 64 = .ok (.invokespecial 25, 3) := by decide +kernel
theorem dX10_init_67 : decode cX10_init 67 = .ok (.putfield 36, 3) := by decide +kernel
theorem dX10_init_70 : decode cX10_init 70 = .ok (.aload_n 0, 1) := by decide +kernel
theorem dX10_init_71 : decode cX10_init 71 = .ok (.bipush 8, 2) := by decide +kernel
theorem dX10_init_73 : decode cX10_init 73 = .ok (.anewarray 23, 3) := by decide +kernel
theorem dX10_init_76 : decode cX10_init 76 = .ok (.putfield 39, 3) := by decide +kernel
theorem dX10_init_79 : decode cX10_init 79 = .ok (.aload_n 0, 1) := by decide +kernel
theorem dX10_init_80 : decode cX10_init 80 = .ok (.new 43, 3) := by decide +kernel
theorem dX10_init_83 : decode cX10_init 83 = .ok (.dup, 1) := by decide +kernel
theorem dX10_init_84 : decode cX10_init 84 = .ok (.aload_n 0, 1) := by decide +kernel
theorem dX10_init_85 : decode cX10_init 85 = .ok (.getfield 10, 3) := by decide +kernel
theorem dX10_init_88 : decode cX10_init 88 = .ok (.aload_n 0, 1) := by decide +kernel
theorem dX10_init_89 : decode cX10_init 89 = .ok (.getfield 30, 3) := by decide +kernel
theorem dX10_init_92 : decode cX10_init 92 = .ok (.invokespecial 45, 3) := by decide +kernel
theorem dX10_init_95 : decode cX10_init 95 = .ok (.putfield 48, 3) := by decide +kernel
theorem dX10_init_98 : decode cX10_init 98 = .ok (.aload_n 0, 1) := by decide +kernel
theorem dX10_init_99 : decode cX10_init 99 = .ok (.new 52, 3) := by decide +kernel
theorem dX10_init_102 : decode cX10_init 102 = .ok (.dup, 1) := by decide +kernel
theorem dX10_init_103 : decode cX10_init 103 = .ok (.aload_n 0, 1) := by decide +kernel
theorem dX10_init_104 : decode cX10_init 104 = .ok (.getfield 10, 3) := by decide +kernel
theorem dX10_init_107 : decode cX10_init 107 = .ok (.aload_n 0, 1) := by decide +kernel
theorem dX10_init_108 : decode cX10_init 108 = .ok (.getfield 26, 3) := by decide +kernel
theorem dX10_init_111 : decode cX10_init 111 = .ok (.invokespecial 54, 3) := by decide +kernel
theorem dX10_init_114 : decode cX10_init 114 = .ok (.putfield 55, 3) := by decide +kernel
theorem dX10_init_117 : decode cX10_init 117 = .ok (.iconst 0, 1) := by decide +kernel
theorem dX10_init_118 : decode cX10_init 118 = .ok (.istore_n 1, 1) := by decide +kernel
theorem dX10_init_119 : decode cX10_init 119 = .ok (.iload_n 1, 1) := by decide +kernel
theorem dX10_init_120 : decode cX10_init 120 = .ok (.aload_n 0, 1) := by decide +kernel
theorem dX10_init_121 : decode cX10_init 121 = .ok (.getfield 39, 3) := by decide +kernel
theorem dX10_init_124 : decode cX10_init 124 = .ok (.arraylength, 1) := by decide +kernel
theorem dX10_init_125 : decode cX10_init 125 = .ok (.if_icmp .ge 22, 3) := by decide +kernel
theorem dX10_init_128 : decode cX10_init 128 = .ok (.aload_n 0, 1) := by decide +kernel
theorem dX10_init_129 : decode cX10_init 129 = .ok (.getfield 39, 3) := by decide +kernel
theorem dX10_init_132 : decode cX10_init 132 = .ok (.iload_n 1, 1) := by decide +kernel
theorem dX10_init_133 : decode cX10_init 133 = .ok (.new 23, 3) := by decide +kernel
theorem dX10_init_136 : decode cX10_init 136 = .ok (.dup, 1) := by decide +kernel
theorem dX10_init_137 : decode cX10_init 137 = .ok (.invokespecial 25, 3) := by decide +kernel
theorem dX10_init_140 : decode cX10_init 140 = .ok (.aastore, 1) := by decide +kernel
theorem dX10_init_141 : decode cX10_init 141 = .ok (.iinc 1 1, 3) := by decide +kernel
theorem dX10_init_144 : decode cX10_init 144 = .ok (.goto (-25), 3) := by decide +kernel
theorem dX10_init_147 : decode cX10_init 147 = .ok (.aload_n 0, 1) := by decide +kernel
theorem dX10_init_148 : decode cX10_init 148 = .ok (.getfield 10, 3) := by decide +kernel
theorem dX10_init_151 : decode cX10_init 151 = .ok (.ldc 59, 2) := by decide +kernel
theorem dX10_init_153 : decode cX10_init 153 = .ok (.invokevirtual 61, 3) := by decide +kernel
theorem dX10_init_156 : decode cX10_init 156 = .ok (.aload_n 0, 1) := by decide +kernel
theorem dX10_init_157 : decode cX10_init 157 = .ok (.getfield 48, 3) := by decide +kernel
theorem dX10_init_160 : decode cX10_init 160 = .ok (.invokevirtual 65, 3) := by decide +kernel
theorem dX10_init_163 : decode cX10_init 163 = .ok (.pop, 1) := by decide +kernel
theorem dX10_init_164 : decode cX10_init 164 = .ok (.aload_n 0, 1) := by decide +kernel
theorem dX10_init_165 : decode cX10_init 165 = .ok (.getfield 10, 3) := by decide +kernel
theorem dX10_init_168 : decode cX10_init 168 = .ok (.iconst 0, 1) := by decide +kernel
theorem dX10_init_169 : decode cX10_init 169 = .ok (.putfield 69, 3) := by decide +kernel
theorem dX10_init_172 : decode cX10_init 172 = .ok (.aload_n 0, 1) := by decide +kernel
theorem dX10_init_173 : decode cX10_init 173 = .ok (.getfield 26, 3) := by decide +kernel
theorem dX10_init_176 : decode cX10_init 176 = .ok (.aload_n 0, 1) := by decide +kernel
theorem dX10_init_177 : decode cX10_init 177 = .ok (.getfield 30, 3) := by decide +kernel
theorem dX10_init_180 : decode cX10_init 180 = .ok (.invokevirtual 73, 3) := by decide +kernel
theorem dX10_init_183 : decode cX10_init 183 = .ok (.return_, 1) := by decide +kernel
theorem dX10_appendInput_0 : decode cX10_appendInput 0 = .ok (.aload_n 0, 1) := by decide +kernel
theorem dX10_appendInput_1 : decode cX10_appendInput 1 = .ok (.getfield 10, 3) := by decide +kernel
theorem dX10_appendInput_4 : decode cX10_appendInput 4 = .ok (.getfield 69, 3) := by decide +kernel
theorem dX10_appendInput_7 : decode cX10_appendInput 7 = .ok (.bipush 20, 2) := by decide +kernel
theorem dX10_appendInput_9 : decode cX10_appendInput 9 = .ok (.iadd, 1) := by decide +kernel
theorem dX10_appendInput_10 : decode cX10_appendInput 10 = .ok (.sipush 600, 3) := by decide +kernel
theorem dX10_appendInput_13 : decode cX10_appendInput 13 = .ok (.if_icmp .le 5, 3) := by decide +kernel
theorem dX10_appendInput_16 : decode cX10_appendInput 16 = .ok (.iconst (-1), 1) := by decide +kernel
theorem dX10_appendInput_17 : decode cX10_appendInput 17 = .ok (.ireturn, 1) := by decide +kernel
theorem dX10_appendInput_18 : decode cX10_appendInput 18 = .ok (.aload_n 0, 1) := by decide +kernel
theorem dX10_appendInput_19 : decode cX10_appendInput 19 = .ok (.getfield 10, 3) := by decide +kernel
theorem dX10_appendInput_22 : decode cX10_appendInput 22 = .ok (.iload_n 1, 1) := by decide +kernel
theorem dX10_appendInput_23 : decode cX10_appendInput 23 = .ok (.invokevirtual 77, 3) := by decide +kernel
theorem dX10_appendInput_26 : decode cX10_appendInput 26 = .ok (.aload_n 0, 1) := by decide +kernel
theorem dX10_appendInput_27 : decode cX10_appendInput 27 = .ok (.getfield 10, 3) := by decide +kernel
theorem dX10_appendInput_30 : decode cX10_appendInput 30 = .ok (.iload_n 2, 1) := by decide +kernel
theorem dX10_appendInput_31 : decode cX10_appendInput 31 = .ok (.invokevirtual 77, 3) := by decide +kernel
theorem dX10_appendInput_34 : decode cX10_appendInput 34 = .ok (.aload_n 0, 1) := by decide +kernel
theorem dX10_appendInput_35 : decode cX10_appendInput 35 = .ok (.getfield 10, 3) := by decide +kernel
theorem dX10_appendInput_38 : decode cX10_appendInput 38 = .ok (.iload_n 3, 1) := by decide +kernel
theorem dX10_appendInput_39 : decode cX10_appendInput 39 = .ok (.invokevirtual 77, 3) := by decide +kernel
theorem dX10_appendInput_42 : decode cX10_appendInput 42 = .ok (.aload_n 0, 1) := by decide +kernel
theorem dX10_appendInput_43 : decode cX10_appendInput 43 = .ok (.getfield 10, 3) := by decide +kernel
theorem dX10_appendInput_46 : decode cX10_appendInput 46 = .ok (.iload 4, 2) := by decide +kernel
theorem dX10_appendInput_48 : decode cX10_appendInput 48 = .ok (.invokevirtual 77, 3) := by decide +kernel
theorem dX10_appendInput_51 : decode cX10_appendInput 51 = .ok (.aload_n 0, 1) := by decide +kernel
theorem dX10_appendInput_52 : decode cX10_appendInput 52 = .ok (.getfield 10, 3) := by decide +kernel
theorem dX10_appendInput_55 : decode cX10_appendInput 55 = .ok (.iload 5, 2) := by decide +kernel
theorem dX10_appendInput_57 : decode cX10_appendInput 57 = .ok (.invokevirtual 77, 3) := by decide +kernel
theorem dX10_appendInput_60 : decode cX10_appendInput 60 = .ok (.aload_n 0, 1) := by decide +kernel
theorem dX10_appendInput_61 : decode cX10_appendInput 61 = .ok (.getfield 10, 3) := by decide +kernel
theorem dX10_appendInput_64 : decode cX10_appendInput 64 = .ok (.getfield 69, 3) := by decide +kernel
theorem dX10_appendInput_67 : decode cX10_appendInput 67 = .ok (.ireturn, 1) := by decide +kernel
theorem dX10_truncateInput_0 : decode cX10_truncateInput 0 = .ok (.iload_n 1, 1) := by decide +kernel
theorem dX10_truncateInput_1 : decode cX10_truncateInput 1 = .ok (.ifCond .lt 14, 3) := by decide +kernel
theorem dX10_truncateInput_4 : decode cX10_truncateInput 4 = .ok (.iload_n 1, 1) := by decide +kernel
theorem dX10_truncateInput_5 : decode cX10_truncateInput 5 = .ok (.aload_n 0, 1) := by decide +kernel
theorem dX10_truncateInput_6 : decode cX10_truncateInput 6 = .ok (.getfield 10, 3) := by decide +kernel
theorem dX10_truncateInput_9 : decode cX10_truncateInput 9 = .ok (.getfield 69, 3) := by decide +kernel
theorem dX10_truncateInput_12 : decode cX10_truncateInput 12 = .ok (.if_icmp .le 5, 3) := by decide +kernel
theorem dX10_truncateInput_15 : decode cX10_truncateInput 15 = .ok (.iconst 0, 1) := by decide +kernel
theorem dX10_truncateInput_16 : decode cX10_truncateInput 16 = .ok (.ireturn, 1) := by decide +kernel
theorem dX10_truncateInput_17 : decode cX10_truncateInput 17 = .ok (.aload_n 0, 1) := by decide +kernel
theorem dX10_truncateInput_18 : decode cX10_truncateInput 18 = .ok (.getfield 10, 3) := by decide +kernel
theorem dX10_truncateInput_21 : decode cX10_truncateInput 21 = .ok (.iload_n 1, 1) := by decide +kernel
theorem dX10_truncateInput_22 : decode cX10_truncateInput 22 = .ok (.putfield 69, 3) := by decide +kernel
theorem dX10_truncateInput_25 : decode cX10_truncateInput 25 = .ok (.iconst 1, 1) := by decide +kernel
theorem dX10_truncateInput_26 : decode cX10_truncateInput 26 = .ok (.ireturn, 1) := by decide +kernel
theorem dX10_loadGranary_0 : decode cX10_loadGranary 0 = .ok (.aload_n 0, 1) := by decide +kernel
theorem dX10_loadGranary_1 : decode cX10_loadGranary 1 = .ok (.getfield 48, 3) := by decide +kernel
theorem dX10_loadGranary_4 : decode cX10_loadGranary 4 = .ok (.invokevirtual 65, 3) := by decide +kernel
theorem dX10_loadGranary_7 : decode cX10_loadGranary 7 = .ok (.istore_n 1, 1) := by decide +kernel
theorem dX10_loadGranary_8 : decode cX10_loadGranary 8 = .ok (.aload_n 0, 1) := by decide +kernel
theorem dX10_loadGranary_9 : decode cX10_loadGranary 9 = .ok (.getfield 10, 3) := by decide +kernel
theorem dX10_loadGranary_12 : decode cX10_loadGranary 12 = .ok (.iconst 0, 1) := by decide +kernel
theorem dX10_loadGranary_13 : decode cX10_loadGranary 13 = .ok (.putfield 69, 3) := by decide +kernel
theorem dX10_loadGranary_16 : decode cX10_loadGranary 16 = .ok (.iload_n 1, 1) := by decide +kernel
theorem dX10_loadGranary_17 : decode cX10_loadGranary 17 = .ok (.ifCond .ne 5, 3) := by decide +kernel
theorem dX10_loadGranary_20 : decode cX10_loadGranary 20 = .ok (.iconst (-1), 1) := by decide +kernel
theorem dX10_loadGranary_21 : decode cX10_loadGranary 21 = .ok (.ireturn, 1) := by decide +kernel
theorem dX10_loadGranary_22 : decode cX10_loadGranary 22 = .ok (.aload_n 0, 1) := by decide +kernel
theorem dX10_loadGranary_23 : decode cX10_loadGranary 23 = .ok (.getfield 26, 3) := by decide +kernel
theorem dX10_loadGranary_26 : decode cX10_loadGranary 26 = .ok (.aload_n 0, 1) := by decide +kernel
theorem dX10_loadGranary_27 : decode cX10_loadGranary 27 = .ok (.getfield 30, 3) := by decide +kernel
theorem dX10_loadGranary_30 : decode cX10_loadGranary 30 = .ok (.invokevirtual 73, 3) := by decide +kernel
theorem dX10_loadGranary_33 : decode cX10_loadGranary 33 = .ok (.aload_n 0, 1) := by decide +kernel
theorem dX10_loadGranary_34 : decode cX10_loadGranary 34 = .ok (.iconst 0, 1) := by decide +kernel
theorem dX10_loadGranary_35 : decode cX10_loadGranary 35 = .ok (.putfield 81, 3) := by decide +kernel
theorem dX10_loadGranary_38 : decode cX10_loadGranary 38 = .ok (.aload_n 0, 1) := by decide +kernel
theorem dX10_loadGranary_39 : decode cX10_loadGranary 39 = .ok (.iconst 0, 1) := by decide +kernel
theorem dX10_loadGranary_40 : decode cX10_loadGranary 40 = .ok (.putfield 84, 3) := by decide +kernel
theorem dX10_loadGranary_43 : decode cX10_loadGranary 43 = .ok (.aload_n 0, 1) := by decide +kernel
theorem dX10_loadGranary_44 : decode cX10_loadGranary 44 = .ok (.getfield 26, 3) := by decide +kernel
theorem dX10_loadGranary_47 : decode cX10_loadGranary 47 = .ok (.getfield 88, 3) := by decide +kernel
theorem dX10_loadGranary_50 : decode cX10_loadGranary 50 = .ok (.ireturn, 1) := by decide +kernel
theorem dX10_clock_0 : decode cX10_clock 0 = .ok (.aload_n 0, 1) := by decide +kernel
theorem dX10_clock_1 : decode cX10_clock 1 = .ok (.getfield 26, 3) := by decide +kernel
theorem dX10_clock_4 : decode cX10_clock 4 = .ok (.getfield 105, 3) := by decide +kernel
theorem dX10_clock_7 : decode cX10_clock 7 = .ok (.ireturn, 1) := by decide +kernel
theorem dX10_tirednessOf_0 : decode cX10_tirednessOf 0 = .ok (.aload_n 0, 1) := by decide +kernel
theorem dX10_tirednessOf_1 : decode cX10_tirednessOf 1 = .ok (.iload_n 1, 1) := by decide +kernel
theorem dX10_tirednessOf_2 : decode cX10_tirednessOf 2 = .ok (.invokevirtual 114, 3) := by decide +kernel
theorem dX10_tirednessOf_5 : decode cX10_tirednessOf 5 = .ok (.getfield 141, 3) := by decide +kernel
theorem dX10_tirednessOf_8 : decode cX10_tirednessOf 8 = .ok (.ireturn, 1) := by decide +kernel
theorem dX10_strengthOf_0 : decode cX10_strengthOf 0 = .ok (.aload_n 0, 1) := by decide +kernel
theorem dX10_strengthOf_1 : decode cX10_strengthOf 1 = .ok (.iload_n 1, 1) := by decide +kernel
theorem dX10_strengthOf_2 : decode cX10_strengthOf 2 = .ok (.invokevirtual 114, 3) := by decide +kernel
theorem dX10_strengthOf_5 : decode cX10_strengthOf 5 = .ok (.invokevirtual 144, 3) := by decide +kernel
theorem dX10_strengthOf_8 : decode cX10_strengthOf 8 = .ok (.ireturn, 1) := by decide +kernel
theorem dX10_caughtBy_0 : decode cX10_caughtBy 0 = .ok (.aload_n 0, 1) := by decide +kernel
theorem dX10_caughtBy_1 : decode cX10_caughtBy 1 = .ok (.iload_n 1, 1) := by decide +kernel
theorem dX10_caughtBy_2 : decode cX10_caughtBy 2 = .ok (.invokevirtual 114, 3) := by decide +kernel
theorem dX10_caughtBy_5 : decode cX10_caughtBy 5 = .ok (.getfield 147, 3) := by decide +kernel
theorem dX10_caughtBy_8 : decode cX10_caughtBy 8 = .ok (.ireturn, 1) := by decide +kernel
theorem dX10_oathsOf_0 : decode cX10_oathsOf 0 = .ok (.aload_n 0, 1) := by decide +kernel
theorem dX10_oathsOf_1 : decode cX10_oathsOf 1 = .ok (.iload_n 1, 1) := by decide +kernel
theorem dX10_oathsOf_2 : decode cX10_oathsOf 2 = .ok (.invokevirtual 114, 3) := by decide +kernel
theorem dX10_oathsOf_5 : decode cX10_oathsOf 5 = .ok (.getfield 150, 3) := by decide +kernel
theorem dX10_oathsOf_8 : decode cX10_oathsOf 8 = .ok (.ireturn, 1) := by decide +kernel
theorem dX10_grainIn_0 : decode cX10_grainIn 0 = .ok (.aload_n 0, 1) := by decide +kernel
theorem dX10_grainIn_1 : decode cX10_grainIn 1 = .ok (.iload_n 1, 1) := by decide +kernel
theorem dX10_grainIn_2 : decode cX10_grainIn 2 = .ok (.invokevirtual 128, 3) := by decide +kernel
theorem dX10_grainIn_5 : decode cX10_grainIn 5 = .ok (.getfield 153, 3) := by decide +kernel
theorem dX10_grainIn_8 : decode cX10_grainIn 8 = .ok (.ireturn, 1) := by decide +kernel
theorem dX10_miceIn_0 : decode cX10_miceIn 0 = .ok (.aload_n 0, 1) := by decide +kernel
theorem dX10_miceIn_1 : decode cX10_miceIn 1 = .ok (.iload_n 1, 1) := by decide +kernel
theorem dX10_miceIn_2 : decode cX10_miceIn 2 = .ok (.invokevirtual 128, 3) := by decide +kernel
theorem dX10_miceIn_5 : decode cX10_miceIn 5 = .ok (.getfield 156, 3) := by decide +kernel
theorem dX10_miceIn_8 : decode cX10_miceIn 8 = .ok (.ireturn, 1) := by decide +kernel
theorem dX10_isOpen_0 : decode cX10_isOpen 0 = .ok (.aload_n 0, 1) := by decide +kernel
theorem dX10_isOpen_1 : decode cX10_isOpen 1 = .ok (.iload_n 1, 1) := by decide +kernel
theorem dX10_isOpen_2 : decode cX10_isOpen 2 = .ok (.invokevirtual 128, 3) := by decide +kernel
theorem dX10_isOpen_5 : decode cX10_isOpen 5 = .ok (.getfield 159, 3) := by decide +kernel
theorem dX10_isOpen_8 : decode cX10_isOpen 8 = .ok (.ireturn, 1) := by decide +kernel
theorem dX10_eatenFrom_0 : decode cX10_eatenFrom 0 = .ok (.aload_n 0, 1) := by decide +kernel
theorem dX10_eatenFrom_1 : decode cX10_eatenFrom 1 = .ok (.iload_n 1, 1) := by decide +kernel
theorem dX10_eatenFrom_2 : decode cX10_eatenFrom 2 = .ok (.invokevirtual 128, 3) := by decide +kernel
theorem dX10_eatenFrom_5 : decode cX10_eatenFrom 5 = .ok (.getfield 162, 3) := by decide +kernel
theorem dX10_eatenFrom_8 : decode cX10_eatenFrom 8 = .ok (.ireturn, 1) := by decide +kernel
theorem dX10_swornCat_0 : decode cX10_swornCat 0 = .ok (.aload_n 0, 1) := by decide +kernel
theorem dX10_swornCat_1 : decode cX10_swornCat 1 = .ok (.getfield 26, 3) := by decide +kernel
theorem dX10_swornCat_4 : decode cX10_swornCat 4 = .ok (.getfield 165, 3) := by decide +kernel
theorem dX10_swornCat_7 : decode cX10_swornCat 7 = .ok (.ireturn, 1) := by decide +kernel
theorem dX10_currentShift_0 : decode cX10_currentShift 0 = .ok (.aload_n 0, 1) := by decide +kernel
theorem dX10_currentShift_1 : decode cX10_currentShift 1 = .ok (.getfield 26, 3) := by decide +kernel
theorem dX10_currentShift_4 : decode cX10_currentShift 4 = .ok (.getfield 168, 3) := by decide +kernel
theorem dX10_currentShift_7 : decode cX10_currentShift 7 = .ok (.ireturn, 1) := by decide +kernel
theorem dX10_hoursLeft_0 : decode cX10_hoursLeft 0 = .ok (.aload_n 0, 1) := by decide +kernel
theorem dX10_hoursLeft_1 : decode cX10_hoursLeft 1 = .ok (.getfield 26, 3) := by decide +kernel
theorem dX10_hoursLeft_4 : decode cX10_hoursLeft 4 = .ok (.getfield 171, 3) := by decide +kernel
theorem dX10_hoursLeft_7 : decode cX10_hoursLeft 7 = .ok (.ireturn, 1) := by decide +kernel
theorem dX10_milk_0 : decode cX10_milk 0 = .ok (.aload_n 0, 1) := by decide +kernel
theorem dX10_milk_1 : decode cX10_milk 1 = .ok (.getfield 26, 3) := by decide +kernel
theorem dX10_milk_4 : decode cX10_milk 4 = .ok (.getfield 219, 3) := by decide +kernel
theorem dX10_milk_7 : decode cX10_milk 7 = .ok (.ireturn, 1) := by decide +kernel
theorem dX10_totalCaught_0 : decode cX10_totalCaught 0 = .ok (.aload_n 0, 1) := by decide +kernel
theorem dX10_totalCaught_1 : decode cX10_totalCaught 1 = .ok (.getfield 26, 3) := by decide +kernel
theorem dX10_totalCaught_4 : decode cX10_totalCaught 4 = .ok (.getfield 232, 3) := by decide +kernel
theorem dX10_totalCaught_7 : decode cX10_totalCaught 7 = .ok (.getfield 236, 3) := by decide +kernel
theorem dX10_totalCaught_10 : decode cX10_totalCaught 10 = .ok (.ireturn, 1) := by decide +kernel
theorem dX10_totalEaten_0 : decode cX10_totalEaten 0 = .ok (.aload_n 0, 1) := by decide +kernel
theorem dX10_totalEaten_1 : decode cX10_totalEaten 1 = .ok (.getfield 26, 3) := by decide +kernel
theorem dX10_totalEaten_4 : decode cX10_totalEaten 4 = .ok (.getfield 232, 3) := by decide +kernel
theorem dX10_totalEaten_7 : decode cX10_totalEaten 7 = .ok (.getfield 246, 3) := by decide +kernel
theorem dX10_totalEaten_10 : decode cX10_totalEaten 10 = .ok (.ireturn, 1) := by decide +kernel
theorem dX10_totalBorn_0 : decode cX10_totalBorn 0 = .ok (.aload_n 0, 1) := by decide +kernel
theorem dX10_totalBorn_1 : decode cX10_totalBorn 1 = .ok (.getfield 26, 3) := by decide +kernel
theorem dX10_totalBorn_4 : decode cX10_totalBorn 4 = .ok (.getfield 232, 3) := by decide +kernel
theorem dX10_totalBorn_7 : decode cX10_totalBorn 7 = .ok (.getfield 247, 3) := by decide +kernel
theorem dX10_totalBorn_10 : decode cX10_totalBorn 10 = .ok (.ireturn, 1) := by decide +kernel
theorem dX10_totalStarved_0 : decode cX10_totalStarved 0 = .ok (.aload_n 0, 1) := by decide +kernel
theorem dX10_totalStarved_1 : decode cX10_totalStarved 1 = .ok (.getfield 26, 3) := by decide +kernel
theorem dX10_totalStarved_4 : decode cX10_totalStarved 4 = .ok (.getfield 232, 3) := by decide +kernel
theorem dX10_totalStarved_7 : decode cX10_totalStarved 7 = .ok (.getfield 250, 3) := by decide +kernel
theorem dX10_totalStarved_10 : decode cX10_totalStarved 10 = .ok (.ireturn, 1) := by decide +kernel
theorem dX10_totalOaths_0 : decode cX10_totalOaths 0 = .ok (.aload_n 0, 1) := by decide +kernel
theorem dX10_totalOaths_1 : decode cX10_totalOaths 1 = .ok (.getfield 26, 3) := by decide +kernel
theorem dX10_totalOaths_4 : decode cX10_totalOaths 4 = .ok (.getfield 232, 3) := by decide +kernel
theorem dX10_totalOaths_7 : decode cX10_totalOaths 7 = .ok (.getfield 253, 3) := by decide +kernel
theorem dX10_totalOaths_10 : decode cX10_totalOaths 10 = .ok (.ireturn, 1) := by decide +kernel
theorem dX10_totalRefusals_0 : decode cX10_totalRefusals 0 = .ok (.aload_n 0, 1) := by decide +kernel
theorem dX10_totalRefusals_1 : decode cX10_totalRefusals 1 = .ok (.getfield 26, 3) := by decide +kernel
theorem dX10_totalRefusals_4 : decode cX10_totalRefusals 4 = .ok (.getfield 232, 3) := by decide +kernel
theorem dX10_totalRefusals_7 : decode cX10_totalRefusals 7 = .ok (.getfield 254, 3) := by decide +kernel
theorem dX10_totalRefusals_10 : decode cX10_totalRefusals 10 = .ok (.ireturn, 1) := by decide +kernel
theorem dX10_isConsistent_0 : decode cX10_isConsistent 0 = .ok (.aload_n 0, 1) := by decide +kernel
theorem dX10_isConsistent_1 : decode cX10_isConsistent 1 = .ok (.getfield 26, 3) := by decide +kernel
theorem dX10_isConsistent_4 : decode cX10_isConsistent 4 = .ok (.invokevirtual 257, 3) := by decide +kernel
theorem dX10_isConsistent_7 : decode cX10_isConsistent 7 = .ok (.ifCond .eq 27, 3) := by decide +kernel
theorem dX10_isConsistent_10 : decode cX10_isConsistent 10 = .ok (.aload_n 0, 1) := by decide +kernel
theorem dX10_isConsistent_11 : decode cX10_isConsistent 11 = .ok (.getfield 26, 3) := by decide +kernel
theorem dX10_isConsistent_14 : decode cX10_isConsistent 14 = .ok (.invokevirtual 260, 3) := by decide +kernel
theorem dX10_isConsistent_17 : decode cX10_isConsistent 17 = .ok (.ifCond .eq 17, 3) := by decide +kernel
theorem dX10_isConsistent_20 : decode cX10_isConsistent 20 = .ok (.aload_n 0, 1) := by decide +kernel
theorem dX10_isConsistent_21 : decode cX10_isConsistent 21 = .ok (.getfield 26, 3) := by decide +kernel
theorem dX10_isConsistent_24 : decode cX10_isConsistent 24 = .ok (.invokevirtual 263, 3) := by decide +kernel
theorem dX10_isConsistent_27 : decode cX10_isConsistent 27 = .ok (.ifCond .eq 7, 3) := by decide +kernel
theorem dX10_isConsistent_30 : decode cX10_isConsistent 30 = .ok (.iconst 1, 1) := by decide +kernel
theorem dX10_isConsistent_31 : decode cX10_isConsistent 31 = .ok (.goto 4, 3) := by decide +kernel
theorem dX10_isConsistent_34 : decode cX10_isConsistent 34 = .ok (.iconst 0, 1) := by decide +kernel
theorem dX10_isConsistent_35 : decode cX10_isConsistent 35 = .ok (.ireturn, 1) := by decide +kernel
theorem dX10_letPass_0 : decode cX10_letPass 0 = .ok (.iload_n 1, 1) := by decide +kernel
theorem dX10_letPass_1 : decode cX10_letPass 1 = .ok (.iconst 1, 1) := by decide +kernel
theorem dX10_letPass_2 : decode cX10_letPass 2 = .ok (.bipush 99, 2) := by decide +kernel
theorem dX10_letPass_4 : decode cX10_letPass 4 = .ok (.invokestatic 269, 3) := by decide +kernel
theorem dX10_letPass_7 : decode cX10_letPass 7 = .ok (.aload_n 0, 1) := by decide +kernel
theorem dX10_letPass_8 : decode cX10_letPass 8 = .ok (.iconst 0, 1) := by decide +kernel
theorem dX10_letPass_9 : decode cX10_letPass 9 = .ok (.iconst (-1), 1) := by decide +kernel
theorem dX10_letPass_10 : decode cX10_letPass 10 = .ok (.iload_n 1, 1) := by decide +kernel
theorem dX10_letPass_11 : decode cX10_letPass 11 = .ok (.invokevirtual 273, 3) := by decide +kernel
theorem dX10_letPass_14 : decode cX10_letPass 14 = .ok (.ireturn, 1) := by decide +kernel
theorem dX10_openFlap_0 : decode cX10_openFlap 0 = .ok (.aload_n 0, 1) := by decide +kernel
theorem dX10_openFlap_1 : decode cX10_openFlap 1 = .ok (.iload_n 1, 1) := by decide +kernel
theorem dX10_openFlap_2 : decode cX10_openFlap 2 = .ok (.invokevirtual 128, 3) := by decide +kernel
theorem dX10_openFlap_5 : decode cX10_openFlap 5 = .ok (.pop, 1) := by decide +kernel
theorem dX10_openFlap_6 : decode cX10_openFlap 6 = .ok (.aload_n 0, 1) := by decide +kernel
theorem dX10_openFlap_7 : decode cX10_openFlap 7 = .ok (.iconst 1, 1) := by decide +kernel
theorem dX10_openFlap_8 : decode cX10_openFlap 8 = .ok (.iload_n 1, 1) := by decide +kernel
theorem dX10_openFlap_9 : decode cX10_openFlap 9 = .ok (.iconst 0, 1) := by decide +kernel
theorem dX10_openFlap_10 : decode cX10_openFlap 10 = .ok (.invokevirtual 273, 3) := by decide +kernel
theorem dX10_openFlap_13 : decode cX10_openFlap 13 = .ok (.ireturn, 1) := by decide +kernel
theorem dX10_shutFlap_0 : decode cX10_shutFlap 0 = .ok (.aload_n 0, 1) := by decide +kernel
theorem dX10_shutFlap_1 : decode cX10_shutFlap 1 = .ok (.iload_n 1, 1) := by decide +kernel
theorem dX10_shutFlap_2 : decode cX10_shutFlap 2 = .ok (.invokevirtual 128, 3) := by decide +kernel
theorem dX10_shutFlap_5 : decode cX10_shutFlap 5 = .ok (.pop, 1) := by decide +kernel
theorem dX10_shutFlap_6 : decode cX10_shutFlap 6 = .ok (.aload_n 0, 1) := by decide +kernel
theorem dX10_shutFlap_7 : decode cX10_shutFlap 7 = .ok (.iconst 2, 1) := by decide +kernel
theorem dX10_shutFlap_8 : decode cX10_shutFlap 8 = .ok (.iload_n 1, 1) := by decide +kernel
theorem dX10_shutFlap_9 : decode cX10_shutFlap 9 = .ok (.iconst 0, 1) := by decide +kernel
theorem dX10_shutFlap_10 : decode cX10_shutFlap 10 = .ok (.invokevirtual 273, 3) := by decide +kernel
theorem dX10_shutFlap_13 : decode cX10_shutFlap 13 = .ok (.ireturn, 1) := by decide +kernel
theorem dX10_addMice_0 : decode cX10_addMice 0 = .ok (.aload_n 0, 1) := by decide +kernel
theorem dX10_addMice_1 : decode cX10_addMice 1 = .ok (.iload_n 1, 1) := by decide +kernel
theorem dX10_addMice_2 : decode cX10_addMice 2 = .ok (.invokevirtual 128, 3) := by decide +kernel
theorem dX10_addMice_5 : decode cX10_addMice 5 = .ok (.pop, 1) := by decide +kernel
theorem dX10_addMice_6 : decode cX10_addMice 6 = .ok (.iload_n 2, 1) := by decide +kernel
theorem dX10_addMice_7 : decode cX10_addMice 7 = .ok (.iconst 1, 1) := by decide +kernel
theorem dX10_addMice_8 : decode cX10_addMice 8 = .ok (.bipush 99, 2) := by decide +kernel
theorem dX10_addMice_10 : decode cX10_addMice 10 = .ok (.invokestatic 269, 3) := by decide +kernel
theorem dX10_addMice_13 : decode cX10_addMice 13 = .ok (.aload_n 0, 1) := by decide +kernel
theorem dX10_addMice_14 : decode cX10_addMice 14 = .ok (.iconst 3, 1) := by decide +kernel
theorem dX10_addMice_15 : decode cX10_addMice 15 = .ok (.iload_n 1, 1) := by decide +kernel
theorem dX10_addMice_16 : decode cX10_addMice 16 = .ok (.iload_n 2, 1) := by decide +kernel
theorem dX10_addMice_17 : decode cX10_addMice 17 = .ok (.invokevirtual 273, 3) := by decide +kernel
theorem dX10_addMice_20 : decode cX10_addMice 20 = .ok (.ireturn, 1) := by decide +kernel
theorem dX10_addGrain_0 : decode cX10_addGrain 0 = .ok (.aload_n 0, 1) := by decide +kernel
theorem dX10_addGrain_1 : decode cX10_addGrain 1 = .ok (.iload_n 1, 1) := by decide +kernel
theorem dX10_addGrain_2 : decode cX10_addGrain 2 = .ok (.invokevirtual 128, 3) := by decide +kernel
theorem dX10_addGrain_5 : decode cX10_addGrain 5 = .ok (.pop, 1) := by decide +kernel
theorem dX10_addGrain_6 : decode cX10_addGrain 6 = .ok (.iload_n 2, 1) := by decide +kernel
theorem dX10_addGrain_7 : decode cX10_addGrain 7 = .ok (.iconst 1, 1) := by decide +kernel
theorem dX10_addGrain_8 : decode cX10_addGrain 8 = .ok (.sipush 999, 3) := by decide +kernel
theorem dX10_addGrain_11 : decode cX10_addGrain 11 = .ok (.invokestatic 269, 3) := by decide +kernel
theorem dX10_addGrain_14 : decode cX10_addGrain 14 = .ok (.aload_n 0, 1) := by decide +kernel
theorem dX10_addGrain_15 : decode cX10_addGrain 15 = .ok (.iconst 4, 1) := by decide +kernel
theorem dX10_addGrain_16 : decode cX10_addGrain 16 = .ok (.iload_n 1, 1) := by decide +kernel
theorem dX10_addGrain_17 : decode cX10_addGrain 17 = .ok (.iload_n 2, 1) := by decide +kernel
theorem dX10_addGrain_18 : decode cX10_addGrain 18 = .ok (.invokevirtual 273, 3) := by decide +kernel
theorem dX10_addGrain_21 : decode cX10_addGrain 21 = .ok (.ireturn, 1) := by decide +kernel
theorem dX10_dismiss_0 : decode cX10_dismiss 0 = .ok (.aload_n 0, 1) := by decide +kernel
theorem dX10_dismiss_1 : decode cX10_dismiss 1 = .ok (.iconst 5, 1) := by decide +kernel
theorem dX10_dismiss_2 : decode cX10_dismiss 2 = .ok (.iconst (-1), 1) := by decide +kernel
theorem dX10_dismiss_3 : decode cX10_dismiss 3 = .ok (.iconst 0, 1) := by decide +kernel
theorem dX10_dismiss_4 : decode cX10_dismiss 4 = .ok (.invokevirtual 273, 3) := by decide +kernel
theorem dX10_dismiss_7 : decode cX10_dismiss 7 = .ok (.ireturn, 1) := by decide +kernel
theorem dX10_setMilk_0 : decode cX10_setMilk 0 = .ok (.iload_n 1, 1) := by decide +kernel
theorem dX10_setMilk_1 : decode cX10_setMilk 1 = .ok (.iconst 0, 1) := by decide +kernel
theorem dX10_setMilk_2 : decode cX10_setMilk 2 = .ok (.bipush 9, 2) := by decide +kernel
theorem dX10_setMilk_4 : decode cX10_setMilk 4 = .ok (.invokestatic 269, 3) := by decide +kernel
theorem dX10_setMilk_7 : decode cX10_setMilk 7 = .ok (.aload_n 0, 1) := by decide +kernel
theorem dX10_setMilk_8 : decode cX10_setMilk 8 = .ok (.bipush 6, 2) := by decide +kernel
theorem dX10_setMilk_10 : decode cX10_setMilk 10 = .ok (.iconst (-1), 1) := by decide +kernel
theorem dX10_setMilk_11 : decode cX10_setMilk 11 = .ok (.iload_n 1, 1) := by decide +kernel
theorem dX10_setMilk_12 : decode cX10_setMilk 12 = .ok (.invokevirtual 273, 3) := by decide +kernel
theorem dX10_setMilk_15 : decode cX10_setMilk 15 = .ok (.ireturn, 1) := by decide +kernel
theorem dX10_catAt_0 : decode cX10_catAt 0 = .ok (.iload_n 1, 1) := by decide +kernel
theorem dX10_catAt_1 : decode cX10_catAt 1 = .ok (.ifCond .lt 14, 3) := by decide +kernel
theorem dX10_catAt_4 : decode cX10_catAt 4 = .ok (.iload_n 1, 1) := by decide +kernel
theorem dX10_catAt_5 : decode cX10_catAt 5 = .ok (.aload_n 0, 1) := by decide +kernel
theorem dX10_catAt_6 : decode cX10_catAt 6 = .ok (.getfield 26, 3) := by decide +kernel
theorem dX10_catAt_9 : decode cX10_catAt 9 = .ok (.getfield 88, 3) := by decide +kernel
theorem dX10_catAt_12 : decode cX10_catAt 12 = .ok (.if_icmp .lt 14, 3) := by decide +kernel
theorem dX10_catAt_15 : decode cX10_catAt 15 = .ok (.new 305, 3) := by decide +kernel
theorem dX10_catAt_18 : decode cX10_catAt 18 = .ok (.dup, 1) := by decide +kernel
theorem dX10_catAt_19 : decode cX10_catAt 19 = .ok (.ldc_w 307, 3) := by decide +kernel
theorem dX10_catAt_22 : decode cX10_catAt 22 = .ok (.invokespecial 309, 3) := by decide +kernel
theorem dX10_catAt_25 : decode cX10_catAt 25 = .ok (.athrow, 1) := by decide +kernel
theorem dX10_catAt_26 : decode cX10_catAt 26 = .ok (.aload_n 0, 1) := by decide +kernel
theorem dX10_catAt_27 : decode cX10_catAt 27 = .ok (.getfield 26, 3) := by decide +kernel
theorem dX10_catAt_30 : decode cX10_catAt 30 = .ok (.getfield 266, 3) := by decide +kernel
theorem dX10_catAt_33 : decode cX10_catAt 33 = .ok (.iload_n 1, 1) := by decide +kernel
theorem dX10_catAt_34 : decode cX10_catAt 34 = .ok (.aaload, 1) := by decide +kernel
theorem dX10_catAt_35 : decode cX10_catAt 35 = .ok (.areturn, 1) := by decide +kernel
theorem dX10_sackAt_0 : decode cX10_sackAt 0 = .ok (.iload_n 1, 1) := by decide +kernel
theorem dX10_sackAt_1 : decode cX10_sackAt 1 = .ok (.ifCond .lt 14, 3) := by decide +kernel
theorem dX10_sackAt_4 : decode cX10_sackAt 4 = .ok (.iload_n 1, 1) := by decide +kernel
theorem dX10_sackAt_5 : decode cX10_sackAt 5 = .ok (.aload_n 0, 1) := by decide +kernel
theorem dX10_sackAt_6 : decode cX10_sackAt 6 = .ok (.getfield 26, 3) := by decide +kernel
theorem dX10_sackAt_9 : decode cX10_sackAt 9 = .ok (.getfield 108, 3) := by decide +kernel
theorem dX10_sackAt_12 : decode cX10_sackAt 12 = .ok (.if_icmp .lt 14, 3) := by decide +kernel
theorem dX10_sackAt_15 : decode cX10_sackAt 15 = .ok (.new 305, 3) := by decide +kernel
theorem dX10_sackAt_18 : decode cX10_sackAt 18 = .ok (.dup, 1) := by decide +kernel
theorem dX10_sackAt_19 : decode cX10_sackAt 19 = .ok (.ldc_w 310, 3) := by decide +kernel
theorem dX10_sackAt_22 : decode cX10_sackAt 22 = .ok (.invokespecial 309, 3) := by decide +kernel
theorem dX10_sackAt_25 : decode cX10_sackAt 25 = .ok (.athrow, 1) := by decide +kernel
theorem dX10_sackAt_26 : decode cX10_sackAt 26 = .ok (.aload_n 0, 1) := by decide +kernel
theorem dX10_sackAt_27 : decode cX10_sackAt 27 = .ok (.getfield 26, 3) := by decide +kernel
theorem dX10_sackAt_30 : decode cX10_sackAt 30 = .ok (.getfield 225, 3) := by decide +kernel
theorem dX10_sackAt_33 : decode cX10_sackAt 33 = .ok (.iload_n 1, 1) := by decide +kernel
theorem dX10_sackAt_34 : decode cX10_sackAt 34 = .ok (.aaload, 1) := by decide +kernel
theorem dX10_sackAt_35 : decode cX10_sackAt 35 = .ok (.areturn, 1) := by decide +kernel
theorem dX10_requireRange_0 : decode cX10_requireRange 0 = .ok (.iload_n 0, 1) := by decide +kernel
theorem dX10_requireRange_1 : decode cX10_requireRange 1 = .ok (.iload_n 1, 1) := by decide +kernel
theorem dX10_requireRange_2 : decode cX10_requireRange 2 = .ok (.if_icmp .lt 8, 3) := by decide +kernel
theorem dX10_requireRange_5 : decode cX10_requireRange 5 = .ok (.iload_n 0, 1) := by decide +kernel
theorem dX10_requireRange_6 : decode cX10_requireRange 6 = .ok (.iload_n 2, 1) := by decide +kernel
theorem dX10_requireRange_7 : decode cX10_requireRange 7 = .ok (.if_icmp .le 14, 3) := by decide +kernel
theorem dX10_requireRange_10 : decode cX10_requireRange 10 = .ok (.new 318, 3) := by decide +kernel
theorem dX10_requireRange_13 : decode cX10_requireRange 13 = .ok (.dup, 1) := by decide +kernel
theorem dX10_requireRange_14 : decode cX10_requireRange 14 = .ok (.ldc_w 320, 3) := by decide +kernel
theorem dX10_requireRange_17 : decode cX10_requireRange 17 = .ok (.invokespecial 322, 3) := by decide +kernel
theorem dX10_requireRange_20 : decode cX10_requireRange 20 = .ok (.athrow, 1) := by decide +kernel
theorem dX10_requireRange_21 : decode cX10_requireRange 21 = .ok (.return_, 1) := by decide +kernel
theorem dX10_change_0 : decode cX10_change 0 = .ok (.aload_n 0, 1) := by decide +kernel
theorem dX10_change_1 : decode cX10_change 1 = .ok (.getfield 26, 3) := by decide +kernel
theorem dX10_change_4 : decode cX10_change 4 = .ok (.iload_n 1, 1) := by decide +kernel
theorem dX10_change_5 : decode cX10_change 5 = .ok (.iload_n 2, 1) := by decide +kernel
theorem dX10_change_6 : decode cX10_change 6 = .ok (.iload_n 3, 1) := by decide +kernel
theorem dX10_change_7 : decode cX10_change 7 = .ok (.invokevirtual 334, 3) := by decide +kernel
theorem dX10_change_10 : decode cX10_change 10 = .ok (.ifCond .ne 14, 3) := by decide +kernel
theorem dX10_change_13 : decode cX10_change 13 = .ok (.new 338, 3) := by decide +kernel
theorem dX10_change_16 : decode cX10_change 16 = .ok (.dup, 1) := by decide +kernel
theorem dX10_change_17 : decode cX10_change 17 = .ok (.ldc_w 340, 3) := by decide +kernel
theorem dX10_change_20 : decode cX10_change 20 = .ok (.invokespecial 342, 3) := by decide +kernel
theorem dX10_change_23 : decode cX10_change 23 = .ok (.athrow, 1) := by decide +kernel
theorem dX10_change_24 : decode cX10_change 24 = .ok (.aload_n 0, 1) := by decide +kernel
theorem dX10_change_25 : decode cX10_change 25 = .ok (.invokevirtual 92, 3) := by decide +kernel
theorem dX10_change_28 : decode cX10_change 28 = .ok (.aload_n 0, 1) := by decide +kernel
theorem dX10_change_29 : decode cX10_change 29 = .ok (.getfield 26, 3) := by decide +kernel
theorem dX10_change_32 : decode cX10_change 32 = .ok (.iload_n 1, 1) := by decide +kernel
theorem dX10_change_33 : decode cX10_change 33 = .ok (.iload_n 2, 1) := by decide +kernel
theorem dX10_change_34 : decode cX10_change 34 = .ok (.iload_n 3, 1) := by decide +kernel
theorem dX10_change_35 : decode cX10_change 35 = .ok (.invokevirtual 343, 3) := by decide +kernel
theorem dX10_change_38 : decode cX10_change 38 = .ok (.ireturn, 1) := by decide +kernel
theorem dX10_remember_0 : decode cX10_remember 0 = .ok (.aload_n 0, 1) := by decide +kernel
theorem dX10_remember_1 : decode cX10_remember 1 = .ok (.getfield 39, 3) := by decide +kernel
theorem dX10_remember_4 : decode cX10_remember 4 = .ok (.aload_n 0, 1) := by decide +kernel
theorem dX10_remember_5 : decode cX10_remember 5 = .ok (.getfield 283, 3) := by decide +kernel
theorem dX10_remember_8 : decode cX10_remember 8 = .ok (.aaload, 1) := by decide +kernel
theorem dX10_remember_9 : decode cX10_remember 9 = .ok (.aload_n 0, 1) := by decide +kernel
theorem dX10_remember_10 : decode cX10_remember 10 = .ok (.getfield 26, 3) := by decide +kernel
theorem dX10_remember_13 : decode cX10_remember 13 = .ok (.invokevirtual 73, 3) := by decide +kernel
theorem dX10_remember_16 : decode cX10_remember 16 = .ok (.aload_n 0, 1) := by decide +kernel
theorem dX10_remember_17 : decode cX10_remember 17 = .ok (.aload_n 0, 1) := by decide +kernel
theorem dX10_remember_18 : decode cX10_remember 18 = .ok (.getfield 283, 3) := by decide +kernel
theorem dX10_remember_21 : decode cX10_remember 21 = .ok (.iconst 1, 1) := by decide +kernel
theorem dX10_remember_22 : decode cX10_remember 22 = .ok (.iadd, 1) := by decide +kernel
theorem dX10_remember_23 : decode cX10_remember 23 = .ok (.bipush 8, 2) := by decide +kernel
theorem dX10_remember_25 : decode cX10_remember 25 = .ok (.irem, 1) := by decide +kernel
theorem dX10_remember_26 : decode cX10_remember 26 = .ok (.putfield 283, 3) := by decide +kernel
theorem dX10_remember_29 : decode cX10_remember 29 = .ok (.aload_n 0, 1) := by decide +kernel
theorem dX10_remember_30 : decode cX10_remember 30 = .ok (.aload_n 0, 1) := by decide +kernel
theorem dX10_remember_31 : decode cX10_remember 31 = .ok (.getfield 81, 3) := by decide +kernel
theorem dX10_remember_34 : decode cX10_remember 34 = .ok (.iconst 1, 1) := by decide +kernel
theorem dX10_remember_35 : decode cX10_remember 35 = .ok (.iadd, 1) := by decide +kernel
theorem dX10_remember_36 : decode cX10_remember 36 = .ok (.bipush 8, 2) := by decide +kernel
theorem dX10_remember_38 : decode cX10_remember 38 = .ok (.invokestatic 346, 3) := by decide +kernel
theorem dX10_remember_41 : decode cX10_remember 41 = .ok (.putfield 81, 3) := by decide +kernel
theorem dX10_remember_44 : decode cX10_remember 44 = .ok (.return_, 1) := by decide +kernel
theorem dX11_init_0 : decode cX11_init 0 = .ok (.aload_n 0, 1) := by decide +kernel
theorem dX11_init_1 : decode cX11_init 1 = .ok (.invokespecial 1, 3) := by decide +kernel
theorem dX11_init_4 : decode cX11_init 4 = .ok (.return_, 1) := by decide +kernel
theorem dX11_strength_0 : decode cX11_strength 0 = .ok (.aload_n 0, 1) := by decide +kernel
theorem dX11_strength_1 : decode cX11_strength 1 = .ok (.getfield 7, 3) := by decide +kernel
theorem dX11_strength_4 : decode cX11_strength 4 = .ok (.aload_n 0, 1) := by decide +kernel
theorem dX11_strength_5 : decode cX11_strength 5 = .ok (.getfield 13, 3) := by decide +kernel
theorem dX11_strength_8 : decode cX11_strength 8 = .ok (.iconst 4, 1) := by decide +kernel
theorem dX11_strength_9 : decode cX11_strength 9 = .ok (.idiv, 1) := by decide +kernel
theorem dX11_strength_10 : decode cX11_strength 10 = .ok (.isub, 1) := by decide +kernel
theorem dX11_strength_11 : decode cX11_strength 11 = .ok (.ifCond .ge 7, 3) := by decide +kernel
theorem dX11_strength_14 : decode cX11_strength 14 = .ok (.iconst 0, 1) := by decide +kernel
theorem dX11_strength_15 : decode cX11_strength 15 = .ok (.goto 14, 3) := by decide +kernel
theorem dX11_strength_18 : decode cX11_strength 18 = .ok (.aload_n 0, 1) := by decide +kernel
theorem dX11_strength_19 : decode cX11_strength 19 = .ok (.getfield 7, 3) := by decide +kernel
theorem dX11_strength_22 : decode cX11_strength 22 = .ok (.aload_n 0, 1) := by decide +kernel
theorem dX11_strength_23 : decode cX11_strength 23 = .ok (.getfield 13, 3) := by decide +kernel
theorem dX11_strength_26 : decode cX11_strength 26 = .ok (.iconst 4, 1) := by decide +kernel
theorem dX11_strength_27 : decode cX11_strength 27 = .ok (.idiv, 1) := by decide +kernel
theorem dX11_strength_28 : decode cX11_strength 28 = .ok (.isub, 1) := by decide +kernel
theorem dX11_strength_29 : decode cX11_strength 29 = .ok (.ireturn, 1) := by decide +kernel
theorem dX12_init_0 : decode cX12_init 0 = .ok (.aload_n 0, 1) := by decide +kernel
theorem dX12_init_1 : decode cX12_init 1 = .ok (.invokespecial 1, 3) := by decide +kernel
theorem dX12_init_4 : decode cX12_init 4 = .ok (.aload_n 0, 1) := by decide +kernel
theorem dX12_init_5 : decode cX12_init 5 = .ok (.new 7, 3) := by decide +kernel
theorem dX12_init_8 : decode cX12_init 8 = .ok (.dup, 1) := by decide +kernel
theorem dX12_init_9 : decode cX12_init 9 = .ok (.invokespecial 9, 3) := by decide +kernel
theorem dX12_init_12 : decode cX12_init 12 = .ok (.putfield 10, 3) := by decide +kernel
theorem dX12_init_15 : decode cX12_init 15 = .ok (.aload_n 0, 1) := by decide +kernel
theorem dX12_init_16 : decode cX12_init 16 = .ok (.new 7, 3) := by decide +kernel
theorem dX12_init_19 : decode cX12_init 19 = .ok (.dup, 1) := by decide +kernel
theorem dX12_init_20 : decode cX12_init 20 = .ok (.invokespecial 9, 3) := by decide +kernel
theorem dX12_init_23 : decode cX12_init 23 = .ok (.putfield 16, 3) := by decide +kernel
theorem dX12_init_26 : decode cX12_init 26 = .ok (.aload_n 0, 1) := by decide +kernel
theorem dX12_init_27 : decode cX12_init 27 = .ok (.new 7, 3) := by decide +kernel
theorem dX12_init_30 : decode cX12_init 30 = .ok (.dup, 1) := by decide +kernel
theorem dX12_init_31 : decode cX12_init 31 = .ok (.invokespecial 9, 3) := by decide +kernel
theorem dX12_init_34 : decode cX12_init 34 = .ok (.putfield 19, 3) := by decide +kernel
theorem dX12_init_37 : decode cX12_init 37 = .ok (.aload_n 0, 1) := by decide +kernel
theorem dX12_init_38 : decode cX12_init 38 = .ok (.new 7, 3) := by decide +kernel
theorem dX12_init_41 : decode cX12_init 41 = .ok (.dup, 1) := by decide +kernel
theorem dX12_init_42 : decode cX12_init 42 = .ok (.invokespecial 9, 3) := by decide +kernel
theorem dX12_init_45 : decode cX12_init 45 = .ok (.putfield 22, 3) := by decide +kernel
theorem dX12_init_48 : decode cX12_init 48 = .ok (.return_, 1) := by decide +kernel
theorem dX12_swearsIn_0 : decode cX12_swearsIn 0 = .ok (.aload_n 0, 1) := by decide +kernel
theorem dX12_swearsIn_1 : decode cX12_swearsIn 1 = .ok (.aload_n 1, 1) := by decide +kernel
theorem dX12_swearsIn_2 : decode cX12_swearsIn 2 = .ok (.putfield 25, 3) := by decide +kernel
theorem dX12_swearsIn_5 : decode cX12_swearsIn 5 = .ok (.aload_n 1, 1) := by decide +kernel
theorem dX12_swearsIn_6 : decode cX12_swearsIn 6 = .ok (.dup, 1) := by decide +kernel
theorem dX12_swearsIn_7 : decode cX12_swearsIn 7 = .ok (.getfield 29, 3) := by decide +kernel
theorem dX12_swearsIn_10 : decode cX12_swearsIn 10 = .ok (.iconst 1, 1) := by decide +kernel
theorem dX12_swearsIn_11 : decode cX12_swearsIn 11 = .ok (.iadd, 1) := by decide +kernel
theorem dX12_swearsIn_12 : decode cX12_swearsIn 12 = .ok (.putfield 29, 3) := by decide +kernel
theorem dX12_swearsIn_15 : decode cX12_swearsIn 15 = .ok (.aload_n 0, 1) := by decide +kernel
theorem dX12_swearsIn_16 : decode cX12_swearsIn 16 = .ok (.dup, 1) := by decide +kernel
theorem dX12_swearsIn_17 : decode cX12_swearsIn 17 = .ok (.getfield 35, 3) := by decide +kernel
theorem dX12_swearsIn_20 : decode cX12_swearsIn 20 = .ok (.iconst 1, 1) := by decide +kernel
theorem dX12_swearsIn_21 : decode cX12_swearsIn 21 = .ok (.iadd, 1) := by decide +kernel
theorem dX12_swearsIn_22 : decode cX12_swearsIn 22 = .ok (.putfield 35, 3) := by decide +kernel
theorem dX12_swearsIn_25 : decode cX12_swearsIn 25 = .ok (.return_, 1) := by decide +kernel
theorem dX12_eats_0 : decode cX12_eats 0 = .ok (.iconst 0, 1) := by decide +kernel
theorem dX12_eats_1 : decode cX12_eats 1 = .ok (.istore_n 2, 1) := by decide +kernel
theorem dX12_eats_2 : decode cX12_eats 2 = .ok (.iload_n 2, 1) := by decide +kernel
theorem dX12_eats_3 : decode cX12_eats 3 = .ok (.aload_n 1, 1) := by decide +kernel
theorem dX12_eats_4 : decode cX12_eats 4 = .ok (.getfield 36, 3) := by decide +kernel
theorem dX12_eats_7 : decode cX12_eats 7 = .ok (.if_icmp .ge 46, 3) := by decide +kernel
theorem dX12_eats_10 : decode cX12_eats 10 = .ok (.aload_n 1, 1) := by decide +kernel
theorem dX12_eats_11 : decode cX12_eats 11 = .ok (.getfield 41, 3) := by decide +kernel
theorem dX12_eats_14 : decode cX12_eats 14 = .ok (.ifCond .le 39, 3) := by decide +kernel
theorem dX12_eats_17 : decode cX12_eats 17 = .ok (.aload_n 1, 1) := by decide +kernel
theorem dX12_eats_18 : decode cX12_eats 18 = .ok (.dup, 1) := by decide +kernel
theorem dX12_eats_19 : decode cX12_eats 19 = .ok (.getfield 41, 3) := by decide +kernel
theorem dX12_eats_22 : decode cX12_eats 22 = .ok (.iconst 1, 1) := by decide +kernel
theorem dX12_eats_23 : decode cX12_eats 23 = .ok (.isub, 1) := by decide +kernel
theorem dX12_eats_24 : decode cX12_eats 24 = .ok (.putfield 41, 3) := by decide +kernel
theorem dX12_eats_27 : decode cX12_eats 27 = .ok (.aload_n 1, 1) := by decide +kernel
theorem dX12_eats_28 : decode cX12_eats 28 = .ok (.dup, 1) := by decide +kernel
theorem dX12_eats_29 : decode cX12_eats 29 = .ok (.getfield 44, 3) := by decide +kernel
theorem dX12_eats_32 : decode cX12_eats 32 = .ok (.iconst 1, 1) := by decide +kernel
theorem dX12_eats_33 : decode cX12_eats 33 = .ok (.iadd, 1) := by decide +kernel
theorem dX12_eats_34 : decode cX12_eats 34 = .ok (.putfield 44, 3) := by decide +kernel
theorem dX12_eats_37 : decode cX12_eats 37 = .ok (.aload_n 0, 1) := by decide +kernel
theorem dX12_eats_38 : decode cX12_eats 38 = .ok (.dup, 1) := by decide +kernel
theorem dX12_eats_39 : decode cX12_eats 39 = .ok (.getfield 47, 3) := by decide +kernel
theorem dX12_eats_42 : decode cX12_eats 42 = .ok (.iconst 1, 1) := by decide +kernel
theorem dX12_eats_43 : decode cX12_eats 43 = .ok (.iadd, 1) := by decide +kernel
theorem dX12_eats_44 : decode cX12_eats 44 = .ok (.putfield 47, 3) := by decide +kernel
theorem dX12_eats_47 : decode cX12_eats 47 = .ok (.iinc 2 1, 3) := by decide +kernel
theorem dX12_eats_50 : decode cX12_eats 50 = .ok (.goto (-48), 3) := by decide +kernel
theorem dX12_eats_53 : decode cX12_eats 53 = .ok (.aload_n 1, 1) := by decide +kernel
theorem dX12_eats_54 : decode cX12_eats 54 = .ok (.getfield 36, 3) := by decide +kernel
theorem dX12_eats_57 : decode cX12_eats 57 = .ok (.ifCond .eq 10, 3) := by decide +kernel
theorem dX12_eats_60 : decode cX12_eats 60 = .ok (.aload_n 1, 1) := by decide +kernel
theorem dX12_eats_61 : decode cX12_eats 61 = .ok (.getfield 41, 3) := by decide +kernel
theorem dX12_eats_64 : decode cX12_eats 64 = .ok (.ifCond .le 4, 3) := by decide +kernel
theorem dX12_eats_67 : decode cX12_eats 67 = .ok (.return_, 1) := by decide +kernel
theorem dX12_eats_68 : decode cX12_eats 68 = .ok (.aconst_null, 1) := by decide +kernel
theorem dX12_eats_69 : decode cX12_eats 69 = .ok (.astore_n 2, 1) := by decide +kernel
theorem dX12_eats_70 : decode cX12_eats 70 = .ok (.iconst 1, 1) := by decide +kernel
theorem dX12_eats_71 : decode cX12_eats 71 = .ok (.istore_n 3, 1) := by decide +kernel
theorem dX12_eats_72 : decode cX12_eats 72 = .ok (.iload_n 3, 1) := by decide +kernel
theorem dX12_eats_73 : decode cX12_eats 73 = .ok (.aload_n 0, 1) := by decide +kernel
theorem dX12_eats_74 : decode cX12_eats 74 = .ok (.getfield 19, 3) := by decide +kernel
theorem dX12_eats_77 : decode cX12_eats 77 = .ok (.invokeinterface 48 1, 5) := by decide +kernel
theorem dX12_eats_82 : decode cX12_eats 82 = .ok (.if_icmp .ge 83, 3) := by decide +kernel
theorem dX12_eats_85 : decode cX12_eats 85 = .ok (.aload_n 1, 1) := by decide +kernel
theorem dX12_eats_86 : decode cX12_eats 86 = .ok (.getfield 54, 3) := by decide +kernel
theorem dX12_eats_89 : decode cX12_eats 89 = .ok (.ifCond .eq 76, 3) := by decide +kernel
theorem dX12_eats_92 : decode cX12_eats 92 = .ok (.aload_n 2, 1) := by decide +kernel
theorem dX12_eats_93 : decode cX12_eats 93 = .ok (.ifnonnull 72, 3) := by decide +kernel
theorem dX12_eats_96 : decode cX12_eats 96 = .ok (.aload_n 0, 1) := by decide +kernel
theorem dX12_eats_97 : decode cX12_eats 97 = .ok (.getfield 19, 3) := by decide +kernel
theorem dX12_eats_100 : decode cX12_eats 100 = .ok (.aload_n 1, 1) := by decide +kernel
theorem dX12_eats_101 : decode cX12_eats 101 = .ok (.getfield 58, 3) := by decide +kernel
theorem dX12_eats_104 : decode cX12_eats 104 = .ok (.iload_n 3, 1) := by decide +kernel
theorem dX12_eats_105 : decode cX12_eats 105 = .ok (.iadd, 1) := by decide +kernel
theorem dX12_eats_106 : decode cX12_eats 106 = .ok (.aload_n 0, 1) := by decide +kernel
theorem dX12_eats_107 : decode cX12_eats 107 = .ok (.getfield 19, 3) := by decide +kernel
theorem dX12_eats_110 : decode cX12_eats 110 = .ok (.invokeinterface 48 1, 5) := by decide +kernel
theorem dX12_eats_115 : decode cX12_eats 115 = .ok (.irem, 1) := by decide +kernel
theorem dX12_eats_116 : decode cX12_eats 116 = .ok (.invokeinterface 61 2, 5) := by decide +kernel
theorem dX12_eats_121 : decode cX12_eats 121 = .ok (.checkcast 37, 3) := by decide +kernel
theorem dX12_eats_124 : decode cX12_eats 124 = .ok (.getfield 54, 3) := by decide +kernel
theorem dX12_eats_127 : decode cX12_eats 127 = .ok (.ifCond .eq 32, 3) := by decide +kernel
theorem dX12_eats_130 : decode cX12_eats 130 = .ok (.aload_n 0, 1) := by decide +kernel
theorem dX12_eats_131 : decode cX12_eats 131 = .ok (.getfield 19, 3) := by decide +kernel
theorem dX12_eats_134 : decode cX12_eats 134 = .ok (.aload_n 1, 1) := by decide +kernel
theorem dX12_eats_135 : decode cX12_eats 135 = .ok (.getfield 58, 3) := by decide +kernel
theorem dX12_eats_138 : decode cX12_eats 138 = .ok (.iload_n 3, 1) := by decide +kernel
theorem dX12_eats_139 : decode cX12_eats 139 = .ok (.iadd, 1) := by decide +kernel
theorem dX12_eats_140 : decode cX12_eats 140 = .ok (.aload_n 0, 1) := by decide +kernel
theorem dX12_eats_141 : decode cX12_eats 141 = .ok (.getfield 19, 3) := by decide +kernel
theorem dX12_eats_144 : decode cX12_eats 144 = .ok (.invokeinterface 48 1, 5) := by decide +kernel
theorem dX12_eats_149 : decode cX12_eats 149 = .ok (.irem, 1) := by decide +kernel
theorem dX12_eats_150 : decode cX12_eats 150 = .ok (.invokeinterface 61 2, 5) := by decide +kernel
theorem dX12_eats_155 : decode cX12_eats 155 = .ok (.checkcast 37, 3) := by decide +kernel
theorem dX12_eats_158 : decode cX12_eats 158 = .ok (.astore_n 2, 1) := by decide +kernel
theorem dX12_eats_159 : decode cX12_eats 159 = .ok (.iinc 3 1, 3) := by decide +kernel
theorem dX12_eats_162 : decode cX12_eats 162 = .ok (.goto (-90), 3) := by decide +kernel
theorem dX12_eats_165 : decode cX12_eats 165 = .ok (.aload_n 2, 1) := by decide +kernel
theorem dX12_eats_166 : decode cX12_eats 166 = .ok (.ifnonnull 36, 3) := by decide +kernel
theorem dX12_eats_169 : decode cX12_eats 169 = .ok (.aload_n 1, 1) := by decide +kernel
theorem dX12_eats_170 : decode cX12_eats 170 = .ok (.getfield 36, 3) := by decide +kernel
theorem dX12_eats_173 : decode cX12_eats 173 = .ok (.aload_n 1, 1) := by decide +kernel
theorem dX12_eats_174 : decode cX12_eats 174 = .ok (.getfield 36, 3) := by decide +kernel
theorem dX12_eats_177 : decode cX12_eats 177 = .ok (.iconst 2, 1) := by decide +kernel
theorem dX12_eats_178 : decode cX12_eats 178 = .ok (.idiv, 1) := by decide +kernel
theorem dX12_eats_179 : decode cX12_eats 179 = .ok (.isub, 1) := by decide +kernel
theorem dX12_eats_180 : decode cX12_eats 180 = .ok (.istore_n 3, 1) := by decide +kernel
theorem dX12_eats_181 : decode cX12_eats 181 = .ok (.aload_n 1, 1) := by decide +kernel
theorem dX12_eats_182 : decode cX12_eats 182 = .ok (.dup, 1) := by decide +kernel
theorem dX12_eats_183 : decode cX12_eats 183 = .ok (.getfield 36, 3) := by decide +kernel
theorem dX12_eats_186 : decode cX12_eats 186 = .ok (.iload_n 3, 1) := by decide +kernel
theorem dX12_eats_187 : decode cX12_eats 187 = .ok (.isub, 1) := by decide +kernel
theorem dX12_eats_188 : decode cX12_eats 188 = .ok (.putfield 36, 3) := by decide +kernel
theorem dX12_eats_191 : decode cX12_eats 191 = .ok (.aload_n 0, 1) := by decide +kernel
theorem dX12_eats_192 : decode cX12_eats 192 = .ok (.dup, 1) := by decide +kernel
theorem dX12_eats_193 : decode cX12_eats 193 = .ok (.getfield 65, 3) := by decide +kernel
theorem dX12_eats_196 : decode cX12_eats 196 = .ok (.iload_n 3, 1) := by decide +kernel
theorem dX12_eats_197 : decode cX12_eats 197 = .ok (.iadd, 1) := by decide +kernel
theorem dX12_eats_198 : decode cX12_eats 198 = .ok (.putfield 65, 3) := by decide +kernel
theorem dX12_eats_201 : decode cX12_eats 201 = .ok (.return_, 1) := by decide +kernel
theorem dX12_eats_202 : decode cX12_eats 202 = .ok (.aload_n 1, 1) := by decide +kernel
theorem dX12_eats_203 : decode cX12_eats 203 = .ok (.getfield 36, 3) := by decide +kernel
theorem dX12_eats_206 : decode cX12_eats 206 = .ok (.ifCond .le 48, 3) := by decide +kernel
theorem dX12_eats_209 : decode cX12_eats 209 = .ok (.aload_n 2, 1) := by decide +kernel
theorem dX12_eats_210 : decode cX12_eats 210 = .ok (.getfield 36, 3) := by decide +kernel
theorem dX12_eats_213 : decode cX12_eats 213 = .ok (.bipush 99, 2) := by decide +kernel
theorem dX12_eats_215 : decode cX12_eats 215 = .ok (.if_icmp .ge 16, 3) := by decide +kernel
theorem dX12_eats_218 : decode cX12_eats 218 = .ok (.aload_n 2, 1) := by decide +kernel
theorem dX12_eats_219 : decode cX12_eats 219 = .ok (.dup, 1) := by decide +kernel
theorem dX12_eats_220 : decode cX12_eats 220 = .ok (.getfield 36, 3) := by decide +kernel
theorem dX12_eats_223 : decode cX12_eats 223 = .ok (.iconst 1, 1) := by decide +kernel
theorem dX12_eats_224 : decode cX12_eats 224 = .ok (.iadd, 1) := by decide +kernel
theorem dX12_eats_225 : decode cX12_eats 225 = .ok (.putfield 36, 3) := by decide +kernel
theorem dX12_eats_228 : decode cX12_eats 228 = .ok (.goto 13, 3) := by decide +kernel
theorem dX12_eats_231 : decode cX12_eats 231 = .ok (.aload_n 0, 1) := by decide +kernel
theorem dX12_eats_232 : decode cX12_eats 232 = .ok (.dup, 1) := by decide +kernel
theorem dX12_eats_233 : decode cX12_eats 233 = .ok (.getfield 65, 3) := by decide +kernel
theorem dX12_eats_236 : decode cX12_eats 236 = .ok (.iconst 1, 1) := by decide +kernel
theorem dX12_eats_237 : decode cX12_eats 237 = .ok (.iadd, 1) := by decide +kernel
theorem dX12_eats_238 : decode cX12_eats 238 = .ok (.putfield 65, 3) := by decide +kernel
theorem dX12_eats_241 : decode cX12_eats 241 = .ok (.aload_n 1, 1) := by decide +kernel
theorem dX12_eats_242 : decode cX12_eats 242 = .ok (.dup, 1) := by decide +kernel
theorem dX12_eats_243 : decode cX12_eats 243 = .ok (.getfield 36, 3) := by decide +kernel
theorem dX12_eats_246 : decode cX12_eats 246 = .ok (.iconst 1, 1) := by decide +kernel
theorem dX12_eats_247 : decode cX12_eats 247 = .ok (.isub, 1) := by decide +kernel
theorem dX12_eats_248 : decode cX12_eats 248 = .ok (.putfield 36, 3) := by decide +kernel
theorem dX12_eats_251 : decode cX12_eats 251 = .ok (.goto (-49), 3) := by decide +kernel
theorem dX12_eats_254 : decode cX12_eats 254 = .ok (.return_, 1) := by decide +kernel
theorem dX12_hunts_0 : decode cX12_hunts 0 = .ok (.aconst_null, 1) := by decide +kernel
theorem dX12_hunts_1 : decode cX12_hunts 1 = .ok (.astore_n 1, 1) := by decide +kernel
theorem dX12_hunts_2 : decode cX12_hunts 2 = .ok (.aload_n 0, 1) := by decide +kernel
theorem dX12_hunts_3 : decode cX12_hunts 3 = .ok (.getfield 19, 3) := by decide +kernel
theorem dX12_hunts_6 : decode cX12_hunts 6 = .ok (.invokeinterface 68 1, 5) := by decide +kernel
theorem dX12_hunts_11 : decode cX12_hunts 11 = .ok (.astore_n 2, 1) := by decide +kernel
theorem dX12_hunts_12 : decode cX12_hunts 12 = .ok (.aload_n 2, 1) := by decide +kernel
theorem dX12_hunts_13 : decode cX12_hunts 13 = .ok (.invokeinterface 72 1, 5) := by decide +kernel
theorem dX12_hunts_18 : decode cX12_hunts 18 = .ok (.ifCond .eq 47, 3) := by decide +kernel
theorem dX12_hunts_21 : decode cX12_hunts 21 = .ok (.aload_n 2, 1) := by decide +kernel
theorem dX12_hunts_22 : decode cX12_hunts 22 = .ok (.invokeinterface 78 1, 5) := by decide +kernel
theorem dX12_hunts_27 : decode cX12_hunts 27 = .ok (.checkcast 37, 3) := by decide +kernel
theorem dX12_hunts_30 : decode cX12_hunts 30 = .ok (.astore_n 3, 1) := by decide +kernel
theorem dX12_hunts_31 : decode cX12_hunts 31 = .ok (.aload_n 3, 1) := by decide +kernel
theorem dX12_hunts_32 : decode cX12_hunts 32 = .ok (.getfield 54, 3) := by decide +kernel
theorem dX12_hunts_35 : decode cX12_hunts 35 = .ok (.ifCond .eq 27, 3) := by decide +kernel
theorem dX12_hunts_38 : decode cX12_hunts 38 = .ok (.aload_n 3, 1) := by decide +kernel
theorem dX12_hunts_39 : decode cX12_hunts 39 = .ok (.getfield 36, 3) := by decide +kernel
theorem dX12_hunts_42 : decode cX12_hunts 42 = .ok (.ifCond .le 20, 3) := by decide +kernel
theorem dX12_hunts_45 : decode cX12_hunts 45 = .ok (.aload_n 1, 1) := by decide +kernel
theorem dX12_hunts_46 : decode cX12_hunts 46 = .ok (.ifnull 14, 3) := by decide +kernel
theorem dX12_hunts_49 : decode cX12_hunts 49 = .ok (.aload_n 3, 1) := by decide +kernel
theorem dX12_hunts_50 : decode cX12_hunts 50 = .ok (.getfield 36, 3) := by decide +kernel
theorem dX12_hunts_53 : decode cX12_hunts 53 = .ok (.aload_n 1, 1) := by decide +kernel
theorem dX12_hunts_54 : decode cX12_hunts 54 = .ok (.getfield 36, 3) := by decide +kernel
theorem dX12_hunts_57 : decode cX12_hunts 57 = .ok (.if_icmp .le 5, 3) := by decide +kernel
theorem dX12_hunts_60 : decode cX12_hunts 60 = .ok (.aload_n 3, 1) := by decide +kernel
theorem dX12_hunts_61 : decode cX12_hunts 61 = .ok (.astore_n 1, 1) := by decide +kernel
theorem dX12_hunts_62 : decode cX12_hunts 62 = .ok (.goto (-50), 3) := by decide +kernel
theorem dX12_hunts_65 : decode cX12_hunts 65 = .ok (.aload_n 0, 1) := by decide +kernel
theorem dX12_hunts_66 : decode cX12_hunts 66 = .ok (.getfield 25, 3) := by decide +kernel
theorem dX12_hunts_69 : decode cX12_hunts 69 = .ok (.ifnull 7, 3) := by decide +kernel
theorem dX12_hunts_72 : decode cX12_hunts 72 = .ok (.aload_n 1, 1) := by decide +kernel
theorem dX12_hunts_73 : decode cX12_hunts 73 = .ok (.ifnonnull 4, 3) := by decide +kernel
theorem dX12_hunts_76 : decode cX12_hunts 76 = .ok (.return_, 1) := by decide +kernel
theorem dX12_hunts_77 : decode cX12_hunts 77 = .ok (.aload_n 0, 1) := by decide +kernel
theorem dX12_hunts_78 : decode cX12_hunts 78 = .ok (.getfield 25, 3) := by decide +kernel
theorem dX12_hunts_81 : decode cX12_hunts 81 = .ok (.invokevirtual 82, 3) := by decide +kernel
theorem dX12_hunts_84 : decode cX12_hunts 84 = .ok (.aload_n 1, 1) := by decide +kernel
theorem dX12_hunts_85 : decode cX12_hunts 85 = .ok (.getfield 36, 3) := by decide +kernel
theorem dX12_hunts_88 : decode cX12_hunts 88 = .ok (.if_icmp .ge 13, 3) := by decide +kernel
theorem dX12_hunts_91 : decode cX12_hunts 91 = .ok (.aload_n 0, 1) := by decide +kernel
theorem dX12_hunts_92 : decode cX12_hunts 92 = .ok (.getfield 25, 3) := by decide +kernel
theorem dX12_hunts_95 : decode cX12_hunts 95 = .ok (.invokevirtual 82, 3) := by decide +kernel
theorem dX12_hunts_98 : decode cX12_hunts 98 = .ok (.goto 7, 3) := by decide +kernel
theorem dX12_hunts_101 : decode cX12_hunts 101 = .ok (.aload_n 1, 1) := by decide +kernel
theorem dX12_hunts_102 : decode cX12_hunts 102 = .ok (.getfield 36, 3) := by decide +kernel
theorem dX12_hunts_105 : decode cX12_hunts 105 = .ok (.istore_n 2, 1) := by decide +kernel
theorem dX12_hunts_106 : decode cX12_hunts 106 = .ok (.aload_n 1, 1) := by decide +kernel
theorem dX12_hunts_107 : decode cX12_hunts 107 = .ok (.dup, 1) := by decide +kernel
theorem dX12_hunts_108 : decode cX12_hunts 108 = .ok (.getfield 36, 3) := by decide +kernel
theorem dX12_hunts_111 : decode cX12_hunts 111 = .ok (.iload_n 2, 1) := by decide +kernel
theorem dX12_hunts_112 : decode cX12_hunts 112 = .ok (.isub, 1) := by decide +kernel
theorem dX12_hunts_113 : decode cX12_hunts 113 = .ok (.putfield 36, 3) := by decide +kernel
theorem dX12_hunts_116 : decode cX12_hunts 116 = .ok (.aload_n 0, 1) := by decide +kernel
theorem dX12_hunts_117 : decode cX12_hunts 117 = .ok (.getfield 25, 3) := by decide +kernel
theorem dX12_hunts_120 : decode cX12_hunts 120 = .ok (.dup, 1) := by decide +kernel
theorem dX12_hunts_121 : decode cX12_hunts 121 = .ok (.getfield 85, 3) := by decide +kernel
theorem dX12_hunts_124 : decode cX12_hunts 124 = .ok (.iload_n 2, 1) := by decide +kernel
theorem dX12_hunts_125 : decode cX12_hunts 125 = .ok (.iadd, 1) := by decide +kernel
theorem dX12_hunts_126 : decode cX12_hunts 126 = .ok (.putfield 85, 3) := by decide +kernel
theorem dX12_hunts_129 : decode cX12_hunts 129 = .ok (.aload_n 0, 1) := by decide +kernel
theorem dX12_hunts_130 : decode cX12_hunts 130 = .ok (.dup, 1) := by decide +kernel
theorem dX12_hunts_131 : decode cX12_hunts 131 = .ok (.getfield 88, 3) := by decide +kernel
theorem dX12_hunts_134 : decode cX12_hunts 134 = .ok (.iload_n 2, 1) := by decide +kernel
theorem dX12_hunts_135 : decode cX12_hunts 135 = .ok (.iadd, 1) := by decide +kernel
theorem dX12_hunts_136 : decode cX12_hunts 136 = .ok (.putfield 88, 3) := by decide +kernel
theorem dX12_hunts_139 : decode cX12_hunts 139 = .ok (.aload_n 0, 1) := by decide +kernel
theorem dX12_hunts_140 : decode cX12_hunts 140 = .ok (.getfield 25, 3) := by decide +kernel
theorem dX12_hunts_143 : decode cX12_hunts 143 = .ok (.getfield 89, 3) := by decide +kernel
theorem dX12_hunts_146 : decode cX12_hunts 146 = .ok (.bipush 20, 2) := by decide +kernel
theorem dX12_hunts_148 : decode cX12_hunts 148 = .ok (.if_icmp .ge 16, 3) := by decide +kernel
theorem dX12_hunts_151 : decode cX12_hunts 151 = .ok (.aload_n 0, 1) := by decide +kernel
theorem dX12_hunts_152 : decode cX12_hunts 152 = .ok (.getfield 25, 3) := by decide +kernel
theorem dX12_hunts_155 : decode cX12_hunts 155 = .ok (.dup, 1) := by decide +kernel
theorem dX12_hunts_156 : decode cX12_hunts 156 = .ok (.getfield 89, 3) := by decide +kernel
theorem dX12_hunts_159 : decode cX12_hunts 159 = .ok (.iconst 1, 1) := by decide +kernel
theorem dX12_hunts_160 : decode cX12_hunts 160 = .ok (.iadd, 1) := by decide +kernel
theorem dX12_hunts_161 : decode cX12_hunts 161 = .ok (.putfield 89, 3) := by decide +kernel
theorem dX12_hunts_164 : decode cX12_hunts 164 = .ok (.aload_n 0, 1) := by decide +kernel
theorem dX12_hunts_165 : decode cX12_hunts 165 = .ok (.getfield 25, 3) := by decide +kernel
theorem dX12_hunts_168 : decode cX12_hunts 168 = .ok (.iconst 1, 1) := by decide +kernel
theorem dX12_hunts_169 : decode cX12_hunts 169 = .ok (.putfield 92, 3) := by decide +kernel
theorem dX12_hunts_172 : decode cX12_hunts 172 = .ok (.return_, 1) := by decide +kernel
theorem dX12_changes_0 : decode cX12_changes 0 = .ok (.aload_n 0, 1) := by decide +kernel
theorem dX12_changes_1 : decode cX12_changes 1 = .ok (.aload_n 0, 1) := by decide +kernel
theorem dX12_changes_2 : decode cX12_changes 2 = .ok (.getfield 95, 3) := by decide +kernel
theorem dX12_changes_5 : decode cX12_changes 5 = .ok (.iconst 1, 1) := by decide +kernel
theorem dX12_changes_6 : decode cX12_changes 6 = .ok (.iadd, 1) := by decide +kernel
theorem dX12_changes_7 : decode cX12_changes 7 = .ok (.aload_n 0, 1) := by decide +kernel
theorem dX12_changes_8 : decode cX12_changes 8 = .ok (.getfield 16, 3) := by decide +kernel
theorem dX12_changes_11 : decode cX12_changes 11 = .ok (.invokeinterface 48 1, 5) := by decide +kernel
theorem dX12_changes_16 : decode cX12_changes 16 = .ok (.if_icmp .ne 7, 3) := by decide +kernel
theorem dX12_changes_19 : decode cX12_changes 19 = .ok (.iconst 0, 1) := by decide +kernel
theorem dX12_changes_20 : decode cX12_changes 20 = .ok (.goto 9, 3) := by decide +kernel
theorem dX12_changes_23 : decode cX12_changes 23 = .ok (.aload_n 0, 1) := by decide +kernel
theorem dX12_changes_24 : decode cX12_changes 24 = .ok (.getfield 95, 3) := by decide +kernel
theorem dX12_changes_27 : decode cX12_changes 27 = .ok (.iconst 1, 1) := by decide +kernel
theorem dX12_changes_28 : decode cX12_changes 28 = .ok (.iadd, 1) := by decide +kernel
theorem dX12_changes_29 : decode cX12_changes 29 = .ok (.putfield 95, 3) := by decide +kernel
theorem dX12_changes_32 : decode cX12_changes 32 = .ok (.aload_n 0, 1) := by decide +kernel
theorem dX12_changes_33 : decode cX12_changes 33 = .ok (.aload_n 0, 1) := by decide +kernel
theorem dX12_changes_34 : decode cX12_changes 34 = .ok (.getfield 22, 3) := by decide +kernel
theorem dX12_changes_37 : decode cX12_changes 37 = .ok (.aload_n 0, 1) := by decide +kernel
theorem dX12_changes_38 : decode cX12_changes 38 = .ok (.getfield 95, 3) := by decide +kernel
theorem dX12_changes_41 : decode cX12_changes 41 = .ok (.invokeinterface 61 2, 5) := by decide +kernel
theorem dX12_changes_46 : decode cX12_changes 46 = .ok (.checkcast 98, 3) := by decide +kernel
theorem dX12_changes_49 : decode cX12_changes 49 = .ok (.invokevirtual 100, 3) := by decide +kernel
theorem dX12_changes_52 : decode cX12_changes 52 = .ok (.putfield 103, 3) := by decide +kernel
theorem dX12_changes_55 : decode cX12_changes 55 = .ok (.aload_n 0, 1) := by decide +kernel
theorem dX12_changes_56 : decode cX12_changes 56 = .ok (.getfield 16, 3) := by decide +kernel
theorem dX12_changes_59 : decode cX12_changes 59 = .ok (.aload_n 0, 1) := by decide +kernel
theorem dX12_changes_60 : decode cX12_changes 60 = .ok (.getfield 95, 3) := by decide +kernel
theorem dX12_changes_63 : decode cX12_changes 63 = .ok (.invokeinterface 61 2, 5) := by decide +kernel
theorem dX12_changes_68 : decode cX12_changes 68 = .ok (.checkcast 30, 3) := by decide +kernel
theorem dX12_changes_71 : decode cX12_changes 71 = .ok (.astore_n 1, 1) := by decide +kernel
theorem dX12_changes_72 : decode cX12_changes 72 = .ok (.aload_n 0, 1) := by decide +kernel
theorem dX12_changes_73 : decode cX12_changes 73 = .ok (.getfield 25, 3) := by decide +kernel
theorem dX12_changes_76 : decode cX12_changes 76 = .ok (.ifnonnull 4, 3) := by decide +kernel
theorem dX12_changes_79 : decode cX12_changes 79 = .ok (.return_, 1) := by decide +kernel
theorem dX12_changes_80 : decode cX12_changes 80 = .ok (.aload_n 1, 1) := by decide +kernel
theorem dX12_changes_81 : decode cX12_changes 81 = .ok (.getfield 89, 3) := by decide +kernel
theorem dX12_changes_84 : decode cX12_changes 84 = .ok (.bipush 12, 2) := by decide +kernel
theorem dX12_changes_86 : decode cX12_changes 86 = .ok (.if_icmp .ge 33, 3) := by decide +kernel
theorem dX12_changes_89 : decode cX12_changes 89 = .ok (.aload_n 1, 1) := by decide +kernel
theorem dX12_changes_90 : decode cX12_changes 90 = .ok (.aload_n 0, 1) := by decide +kernel
theorem dX12_changes_91 : decode cX12_changes 91 = .ok (.getfield 25, 3) := by decide +kernel
theorem dX12_changes_94 : decode cX12_changes 94 = .ok (.if_acmp .eq 17, 3) := by decide +kernel
theorem dX12_changes_97 : decode cX12_changes 97 = .ok (.aload_n 1, 1) := by decide +kernel
theorem dX12_changes_98 : decode cX12_changes 98 = .ok (.getfield 106, 3) := by decide +kernel
theorem dX12_changes_101 : decode cX12_changes 101 = .ok (.aload_n 0, 1) := by decide +kernel
theorem dX12_changes_102 : decode cX12_changes 102 = .ok (.getfield 25, 3) := by decide +kernel
theorem dX12_changes_105 : decode cX12_changes 105 = .ok (.getfield 106, 3) := by decide +kernel
theorem dX12_changes_108 : decode cX12_changes 108 = .ok (.if_icmp .eq 11, 3) := by decide +kernel
theorem dX12_changes_111 : decode cX12_changes 111 = .ok (.aload_n 0, 1) := by decide +kernel
theorem dX12_changes_112 : decode cX12_changes 112 = .ok (.aload_n 1, 1) := by decide +kernel
theorem dX12_changes_113 : decode cX12_changes 113 = .ok (.invokevirtual 109, 3) := by decide +kernel
theorem dX12_changes_116 : decode cX12_changes 116 = .ok (.goto 18, 3) := by decide +kernel
theorem dX12_changes_119 : decode cX12_changes 119 = .ok (.aload_n 0, 1) := by decide +kernel
theorem dX12_changes_120 : decode cX12_changes 120 = .ok (.aconst_null, 1) := by decide +kernel
theorem dX12_changes_121 : decode cX12_changes 121 = .ok (.putfield 25, 3) := by decide +kernel
theorem dX12_changes_124 : decode cX12_changes 124 = .ok (.aload_n 0, 1) := by decide +kernel
theorem dX12_changes_125 : decode cX12_changes 125 = .ok (.dup, 1) := by decide +kernel
theorem dX12_changes_126 : decode cX12_changes 126 = .ok (.getfield 113, 3) := by decide +kernel
theorem dX12_changes_129 : decode cX12_changes 129 = .ok (.iconst 1, 1) := by decide +kernel
theorem dX12_changes_130 : decode cX12_changes 130 = .ok (.iadd, 1) := by decide +kernel
theorem dX12_changes_131 : decode cX12_changes 131 = .ok (.putfield 113, 3) := by decide +kernel
theorem dX12_changes_134 : decode cX12_changes 134 = .ok (.return_, 1) := by decide +kernel
theorem dX12_hour_0 : decode cX12_hour 0 = .ok (.aload_n 0, 1) := by decide +kernel
theorem dX12_hour_1 : decode cX12_hour 1 = .ok (.dup, 1) := by decide +kernel
theorem dX12_hour_2 : decode cX12_hour 2 = .ok (.getfield 116, 3) := by decide +kernel
theorem dX12_hour_5 : decode cX12_hour 5 = .ok (.iconst 1, 1) := by decide +kernel
theorem dX12_hour_6 : decode cX12_hour 6 = .ok (.iadd, 1) := by decide +kernel
theorem dX12_hour_7 : decode cX12_hour 7 = .ok (.putfield 116, 3) := by decide +kernel
theorem dX12_hour_10 : decode cX12_hour 10 = .ok (.aload_n 0, 1) := by decide +kernel
theorem dX12_hour_11 : decode cX12_hour 11 = .ok (.getfield 19, 3) := by decide +kernel
theorem dX12_hour_14 : decode cX12_hour 14 = .ok (.invokeinterface 68 1, 5) := by decide +kernel
theorem dX12_hour_19 : decode cX12_hour 19 = .ok (.astore_n 1, 1) := by decide +kernel
theorem dX12_hour_20 : decode cX12_hour 20 = .ok (.aload_n 1, 1) := by decide +kernel
theorem dX12_hour_21 : decode cX12_hour 21 = .ok (.invokeinterface 72 1, 5) := by decide +kernel
theorem dX12_hour_26 : decode cX12_hour 26 = .ok (.ifCond .eq 21, 3) := by decide +kernel
theorem dX12_hour_29 : decode cX12_hour 29 = .ok (.aload_n 1, 1) := by decide +kernel
theorem dX12_hour_30 : decode cX12_hour 30 = .ok (.invokeinterface 78 1, 5) := by decide +kernel
theorem dX12_hour_35 : decode cX12_hour 35 = .ok (.checkcast 37, 3) := by decide +kernel
theorem dX12_hour_38 : decode cX12_hour 38 = .ok (.astore_n 2, 1) := by decide +kernel
theorem dX12_hour_39 : decode cX12_hour 39 = .ok (.aload_n 0, 1) := by decide +kernel
theorem dX12_hour_40 : decode cX12_hour 40 = .ok (.aload_n 2, 1) := by decide +kernel
theorem dX12_hour_41 : decode cX12_hour 41 = .ok (.invokevirtual 119, 3) := by decide +kernel
theorem dX12_hour_44 : decode cX12_hour 44 = .ok (.goto (-24), 3) := by decide +kernel
theorem dX12_hour_47 : decode cX12_hour 47 = .ok (.aload_n 0, 1) := by decide +kernel
theorem dX12_hour_48 : decode cX12_hour 48 = .ok (.getfield 116, 3) := by decide +kernel
theorem dX12_hour_51 : decode cX12_hour 51 = .ok (.bipush 24, 2) := by decide +kernel
theorem dX12_hour_53 : decode cX12_hour 53 = .ok (.irem, 1) := by decide +kernel
theorem dX12_hour_54 : decode cX12_hour 54 = .ok (.ifCond .ne 88, 3) := by decide +kernel
theorem dX12_hour_57 : decode cX12_hour 57 = .ok (.aload_n 0, 1) := by decide +kernel
theorem dX12_hour_58 : decode cX12_hour 58 = .ok (.getfield 19, 3) := by decide +kernel
theorem dX12_hour_61 : decode cX12_hour 61 = .ok (.invokeinterface 68 1, 5) := by decide +kernel
theorem dX12_hour_66 : decode cX12_hour 66 = .ok (.astore_n 1, 1) := by decide +kernel
theorem dX12_hour_67 : decode cX12_hour 67 = .ok (.aload_n 1, 1) := by decide +kernel
theorem dX12_hour_68 : decode cX12_hour 68 = .ok (.invokeinterface 72 1, 5) := by decide +kernel
theorem dX12_hour_73 : decode cX12_hour 73 = .ok (.ifCond .eq 69, 3) := by decide +kernel
theorem dX12_hour_76 : decode cX12_hour 76 = .ok (.aload_n 1, 1) := by decide +kernel
theorem dX12_hour_77 : decode cX12_hour 77 = .ok (.invokeinterface 78 1, 5) := by decide +kernel
theorem dX12_hour_82 : decode cX12_hour 82 = .ok (.checkcast 37, 3) := by decide +kernel
theorem dX12_hour_85 : decode cX12_hour 85 = .ok (.astore_n 2, 1) := by decide +kernel
theorem dX12_hour_86 : decode cX12_hour 86 = .ok (.aload_n 2, 1) := by decide +kernel
theorem dX12_hour_87 : decode cX12_hour 87 = .ok (.getfield 36, 3) := by decide +kernel
theorem dX12_hour_90 : decode cX12_hour 90 = .ok (.iconst 2, 1) := by decide +kernel
theorem dX12_hour_91 : decode cX12_hour 91 = .ok (.idiv, 1) := by decide +kernel
theorem dX12_hour_92 : decode cX12_hour 92 = .ok (.bipush 99, 2) := by decide +kernel
theorem dX12_hour_94 : decode cX12_hour 94 = .ok (.aload_n 2, 1) := by decide +kernel
theorem dX12_hour_95 : decode cX12_hour 95 = .ok (.getfield 36, 3) := by decide +kernel
theorem dX12_hour_98 : decode cX12_hour 98 = .ok (.isub, 1) := by decide +kernel
theorem dX12_hour_99 : decode cX12_hour 99 = .ok (.if_icmp .ge 12, 3) := by decide +kernel
theorem dX12_hour_102 : decode cX12_hour 102 = .ok (.aload_n 2, 1) := by decide +kernel
theorem dX12_hour_103 : decode cX12_hour 103 = .ok (.getfield 36, 3) := by decide +kernel
theorem dX12_hour_106 : decode cX12_hour 106 = .ok (.iconst 2, 1) := by decide +kernel
theorem dX12_hour_107 : decode cX12_hour 107 = .ok (.idiv, 1) := by decide +kernel
theorem dX12_hour_108 : decode cX12_hour 108 = .ok (.goto 10, 3) := by decide +kernel
theorem dX12_hour_111 : decode cX12_hour 111 = .ok (.bipush 99, 2) := by decide +kernel
theorem dX12_hour_113 : decode cX12_hour 113 = .ok (.aload_n 2, 1) := by decide +kernel
theorem dX12_hour_114 : decode cX12_hour 114 = .ok (.getfield 36, 3) := by decide +kernel
theorem dX12_hour_117 : decode cX12_hour 117 = .ok (.isub, 1) := by decide +kernel
theorem dX12_hour_118 : decode cX12_hour 118 = .ok (.istore_n 3, 1) := by decide +kernel
theorem dX12_hour_119 : decode cX12_hour 119 = .ok (.aload_n 2, 1) := by decide +kernel
theorem dX12_hour_120 : decode cX12_hour 120 = .ok (.dup, 1) := by decide +kernel
theorem dX12_hour_121 : decode cX12_hour 121 = .ok (.getfield 36, 3) := by decide +kernel
theorem dX12_hour_124 : decode cX12_hour 124 = .ok (.iload_n 3, 1) := by decide +kernel
theorem dX12_hour_125 : decode cX12_hour 125 = .ok (.iadd, 1) := by decide +kernel
theorem dX12_hour_126 : decode cX12_hour 126 = .ok (.putfield 36, 3) := by decide +kernel
theorem dX12_hour_129 : decode cX12_hour 129 = .ok (.aload_n 0, 1) := by decide +kernel
theorem dX12_hour_130 : decode cX12_hour 130 = .ok (.dup, 1) := by decide +kernel
theorem dX12_hour_131 : decode cX12_hour 131 = .ok (.getfield 123, 3) := by decide +kernel
theorem dX12_hour_134 : decode cX12_hour 134 = .ok (.iload_n 3, 1) := by decide +kernel
theorem dX12_hour_135 : decode cX12_hour 135 = .ok (.iadd, 1) := by decide +kernel
theorem dX12_hour_136 : decode cX12_hour 136 = .ok (.putfield 123, 3) := by decide +kernel
theorem dX12_hour_139 : decode cX12_hour 139 = .ok (.goto (-72), 3) := by decide +kernel
theorem dX12_hour_142 : decode cX12_hour 142 = .ok (.aload_n 0, 1) := by decide +kernel
theorem dX12_hour_143 : decode cX12_hour 143 = .ok (.getfield 10, 3) := by decide +kernel
theorem dX12_hour_146 : decode cX12_hour 146 = .ok (.invokeinterface 68 1, 5) := by decide +kernel
theorem dX12_hour_151 : decode cX12_hour 151 = .ok (.astore_n 1, 1) := by decide +kernel
theorem dX12_hour_152 : decode cX12_hour 152 = .ok (.aload_n 1, 1) := by decide +kernel
theorem dX12_hour_153 : decode cX12_hour 153 = .ok (.invokeinterface 72 1, 5) := by decide +kernel
theorem dX12_hour_158 : decode cX12_hour 158 = .ok (.ifCond .eq 21, 3) := by decide +kernel
theorem dX12_hour_161 : decode cX12_hour 161 = .ok (.aload_n 1, 1) := by decide +kernel
theorem dX12_hour_162 : decode cX12_hour 162 = .ok (.invokeinterface 78 1, 5) := by decide +kernel
theorem dX12_hour_167 : decode cX12_hour 167 = .ok (.checkcast 30, 3) := by decide +kernel
theorem dX12_hour_170 : decode cX12_hour 170 = .ok (.astore_n 2, 1) := by decide +kernel
theorem dX12_hour_171 : decode cX12_hour 171 = .ok (.aload_n 2, 1) := by decide +kernel
theorem dX12_hour_172 : decode cX12_hour 172 = .ok (.iconst 0, 1) := by decide +kernel
theorem dX12_hour_173 : decode cX12_hour 173 = .ok (.putfield 92, 3) := by decide +kernel
theorem dX12_hour_176 : decode cX12_hour 176 = .ok (.goto (-24), 3) := by decide +kernel
theorem dX12_hour_179 : decode cX12_hour 179 = .ok (.aload_n 0, 1) := by decide +kernel
theorem dX12_hour_180 : decode cX12_hour 180 = .ok (.invokevirtual 126, 3) := by decide +kernel
theorem dX12_hour_183 : decode cX12_hour 183 = .ok (.aload_n 0, 1) := by decide +kernel
theorem dX12_hour_184 : decode cX12_hour 184 = .ok (.getfield 10, 3) := by decide +kernel
theorem dX12_hour_187 : decode cX12_hour 187 = .ok (.invokeinterface 68 1, 5) := by decide +kernel
theorem dX12_hour_192 : decode cX12_hour 192 = .ok (.astore_n 1, 1) := by decide +kernel
theorem dX12_hour_193 : decode cX12_hour 193 = .ok (.aload_n 1, 1) := by decide +kernel
theorem dX12_hour_194 : decode cX12_hour 194 = .ok (.invokeinterface 72 1, 5) := by decide +kernel
theorem dX12_hour_199 : decode cX12_hour 199 = .ok (.ifCond .eq 40, 3) := by decide +kernel
theorem dX12_hour_202 : decode cX12_hour 202 = .ok (.aload_n 1, 1) := by decide +kernel
theorem dX12_hour_203 : decode cX12_hour 203 = .ok (.invokeinterface 78 1, 5) := by decide +kernel
theorem dX12_hour_208 : decode cX12_hour 208 = .ok (.checkcast 30, 3) := by decide +kernel
theorem dX12_hour_211 : decode cX12_hour 211 = .ok (.astore_n 2, 1) := by decide +kernel
theorem dX12_hour_212 : decode cX12_hour 212 = .ok (.aload_n 2, 1) := by decide +kernel
theorem dX12_hour_213 : decode cX12_hour 213 = .ok (.getfield 92, 3) := by decide +kernel
theorem dX12_hour_216 : decode cX12_hour 216 = .ok (.ifCond .ne 20, 3) := by decide +kernel
theorem dX12_hour_219 : decode cX12_hour 219 = .ok (.aload_n 2, 1) := by decide +kernel
theorem dX12_hour_220 : decode cX12_hour 220 = .ok (.getfield 89, 3) := by decide +kernel
theorem dX12_hour_223 : decode cX12_hour 223 = .ok (.ifCond .le 13, 3) := by decide +kernel
theorem dX12_hour_226 : decode cX12_hour 226 = .ok (.aload_n 2, 1) := by decide +kernel
theorem dX12_hour_227 : decode cX12_hour 227 = .ok (.dup, 1) := by decide +kernel
theorem dX12_hour_228 : decode cX12_hour 228 = .ok (.getfield 89, 3) := by decide +kernel
theorem dX12_hour_231 : decode cX12_hour 231 = .ok (.iconst 1, 1) := by decide +kernel
theorem dX12_hour_232 : decode cX12_hour 232 = .ok (.isub, 1) := by decide +kernel
theorem dX12_hour_233 : decode cX12_hour 233 = .ok (.putfield 89, 3) := by decide +kernel
theorem dX12_hour_236 : decode cX12_hour 236 = .ok (.goto (-43), 3) := by decide +kernel
theorem dX12_hour_239 : decode cX12_hour 239 = .ok (.aload_n 0, 1) := by decide +kernel
theorem dX12_hour_240 : decode cX12_hour 240 = .ok (.dup, 1) := by decide +kernel
theorem dX12_hour_241 : decode cX12_hour 241 = .ok (.getfield 103, 3) := by decide +kernel
theorem dX12_hour_244 : decode cX12_hour 244 = .ok (.iconst 1, 1) := by decide +kernel
theorem dX12_hour_245 : decode cX12_hour 245 = .ok (.isub, 1) := by decide +kernel
theorem dX12_hour_246 : decode cX12_hour 246 = .ok (.putfield 103, 3) := by decide +kernel
theorem dX12_hour_249 : decode cX12_hour 249 = .ok (.aload_n 0, 1) := by decide +kernel
theorem dX12_hour_250 : decode cX12_hour 250 = .ok (.getfield 103, 3) := by decide +kernel
theorem dX12_hour_253 : decode cX12_hour 253 = .ok (.ifCond .ne 7, 3) := by decide +kernel
theorem dX12_hour_256 : decode cX12_hour 256 = .ok (.aload_n 0, 1) := by decide +kernel
theorem dX12_hour_257 : decode cX12_hour 257 = .ok (.invokevirtual 129, 3) := by decide +kernel
theorem dX12_hour_260 : decode cX12_hour 260 = .ok (.aload_n 0, 1) := by decide +kernel
theorem dX12_hour_261 : decode cX12_hour 261 = .ok (.getfield 116, 3) := by decide +kernel
theorem dX12_hour_264 : decode cX12_hour 264 = .ok (.bipush 24, 2) := by decide +kernel
theorem dX12_hour_266 : decode cX12_hour 266 = .ok (.irem, 1) := by decide +kernel
theorem dX12_hour_267 : decode cX12_hour 267 = .ok (.bipush 6, 2) := by decide +kernel
theorem dX12_hour_269 : decode cX12_hour 269 = .ok (.if_icmp .eq 4, 3) := by decide +kernel
theorem dX12_hour_272 : decode cX12_hour 272 = .ok (.return_, 1) := by decide +kernel
theorem dX12_hour_273 : decode cX12_hour 273 = .ok (.aload_n 0, 1) := by decide +kernel
theorem dX12_hour_274 : decode cX12_hour 274 = .ok (.getfield 10, 3) := by decide +kernel
theorem dX12_hour_277 : decode cX12_hour 277 = .ok (.invokeinterface 68 1, 5) := by decide +kernel
theorem dX12_hour_282 : decode cX12_hour 282 = .ok (.astore_n 1, 1) := by decide +kernel
theorem dX12_hour_283 : decode cX12_hour 283 = .ok (.aload_n 1, 1) := by decide +kernel
theorem dX12_hour_284 : decode cX12_hour 284 = .ok (.invokeinterface 72 1, 5) := by decide +kernel
theorem dX12_hour_289 : decode cX12_hour 289 = .ok (.ifCond .eq 44, 3) := by decide +kernel
theorem dX12_hour_292 : decode cX12_hour 292 = .ok (.aload_n 1, 1) := by decide +kernel
theorem dX12_hour_293 : decode cX12_hour 293 = .ok (.invokeinterface 78 1, 5) := by decide +kernel
theorem dX12_hour_298 : decode cX12_hour 298 = .ok (.checkcast 30, 3) := by decide +kernel
theorem dX12_hour_301 : decode cX12_hour 301 = .ok (.astore_n 2, 1) := by decide +kernel
theorem dX12_hour_302 : decode cX12_hour 302 = .ok (.aload_n 2, 1) := by decide +kernel
theorem dX12_hour_303 : decode cX12_hour 303 = .ok (.aload_n 2, 1) := by decide +kernel
theorem dX12_hour_304 : decode cX12_hour 304 = .ok (.getfield 89, 3) := by decide +kernel
theorem dX12_hour_307 : decode cX12_hour 307 = .ok (.aload_n 0, 1) := by decide +kernel
theorem dX12_hour_308 : decode cX12_hour 308 = .ok (.getfield 132, 3) := by decide +kernel
theorem dX12_hour_311 : decode cX12_hour 311 = .ok (.if_icmp .ge 7, 3) := by decide +kernel
theorem dX12_hour_314 : decode cX12_hour 314 = .ok (.iconst 0, 1) := by decide +kernel
theorem dX12_hour_315 : decode cX12_hour 315 = .ok (.goto 12, 3) := by decide +kernel
theorem dX12_hour_318 : decode cX12_hour 318 = .ok (.aload_n 2, 1) := by decide +kernel
theorem dX12_hour_319 : decode cX12_hour 319 = .ok (.getfield 89, 3) := by decide +kernel
theorem dX12_hour_322 : decode cX12_hour 322 = .ok (.aload_n 0, 1) := by decide +kernel
theorem dX12_hour_323 : decode cX12_hour 323 = .ok (.getfield 132, 3) := by decide +kernel
theorem dX12_hour_326 : decode cX12_hour 326 = .ok (.isub, 1) := by decide +kernel
theorem dX12_hour_327 : decode cX12_hour 327 = .ok (.putfield 89, 3) := by decide +kernel
theorem dX12_hour_330 : decode cX12_hour 330 = .ok (.goto (-47), 3) := by decide +kernel
theorem dX12_hour_333 : decode cX12_hour 333 = .ok (.aload_n 0, 1) := by decide +kernel
theorem dX12_hour_334 : decode cX12_hour 334 = .ok (.getfield 25, 3) := by decide +kernel
theorem dX12_hour_337 : decode cX12_hour 337 = .ok (.ifnonnull 47, 3) := by decide +kernel
theorem dX12_hour_340 : decode cX12_hour 340 = .ok (.aload_n 0, 1) := by decide +kernel
theorem dX12_hour_341 : decode cX12_hour 341 = .ok (.getfield 16, 3) := by decide +kernel
theorem dX12_hour_344 : decode cX12_hour 344 = .ok (.aload_n 0, 1) := by decide +kernel
theorem dX12_hour_345 : decode cX12_hour 345 = .ok (.getfield 95, 3) := by decide +kernel
theorem dX12_hour_348 : decode cX12_hour 348 = .ok (.invokeinterface 61 2, 5) := by decide +kernel
theorem dX12_hour_353 : decode cX12_hour 353 = .ok (.checkcast 30, 3) := by decide +kernel
theorem dX12_hour_356 : decode cX12_hour 356 = .ok (.getfield 89, 3) := by decide +kernel
theorem dX12_hour_359 : decode cX12_hour 359 = .ok (.bipush 12, 2) := by decide +kernel
theorem dX12_hour_361 : decode cX12_hour 361 = .ok (.if_icmp .ge 23, 3) := by decide +kernel
theorem dX12_hour_364 : decode cX12_hour 364 = .ok (.aload_n 0, 1) := by decide +kernel
theorem dX12_hour_365 : decode cX12_hour 365 = .ok (.aload_n 0, 1) := by decide +kernel
theorem dX12_hour_366 : decode cX12_hour 366 = .ok (.getfield 16, 3) := by decide +kernel
theorem dX12_hour_369 : decode cX12_hour 369 = .ok (.aload_n 0, 1) := by decide +kernel
theorem dX12_hour_370 : decode cX12_hour 370 = .ok (.getfield 95, 3) := by decide +kernel
theorem dX12_hour_373 : decode cX12_hour 373 = .ok (.invokeinterface 61 2, 5) := by decide +kernel
theorem dX12_hour_378 : decode cX12_hour 378 = .ok (.checkcast 30, 3) := by decide +kernel
theorem dX12_hour_381 : decode cX12_hour 381 = .ok (.invokevirtual 109, 3) := by decide +kernel
theorem dX12_hour_384 : decode cX12_hour 384 = .ok (.return_, 1) := by decide +kernel
theorem dX13_init_0 : decode cX13_init 0 = .ok (.aload_n 0, 1) := by decide +kernel
theorem dX13_init_1 : decode cX13_init 1 = .ok (.invokespecial 1, 3) := by decide +kernel
theorem dX13_init_4 : decode cX13_init 4 = .ok (.return_, 1) := by decide +kernel
theorem dJ5_init_d00df_0 : decode cJ5_init_d00df 0 = .ok (.aload_n 0, 1) := by decide +kernel
theorem dJ5_init_d00df_1 : decode cJ5_init_d00df 1 = .ok (.invokespecial 3, 3) := by decide +kernel
theorem dJ5_init_d00df_4 : decode cJ5_init_d00df 4 = .ok (.getstatic 18, 3) := by decide +kernel
theorem dJ5_init_d00df_7 : decode cJ5_init_d00df 7 = .ok (.ifCond .eq 18, 3) := by decide +kernel
theorem dJ5_init_d00df_10 : decode cJ5_init_d00df 10 = .ok (.aload_n 0, 1) := by decide +kernel
theorem dJ5_init_d00df_11 : decode cJ5_init_d00df 11 = .ok (.iload_n 1, 1) := by decide +kernel
theorem dJ5_init_d00df_12 : decode cJ5_init_d00df 12 = .ok (.newarray .byte, 2) := by decide +kernel
theorem dJ5_init_d00df_14 : decode cJ5_init_d00df 14 = .ok (.putfield 15, 3) := by decide +kernel
theorem dJ5_init_d00df_17 : decode cJ5_init_d00df 17 = .ok (.aload_n 0, 1) := by decide +kernel
theorem dJ5_init_d00df_18 : decode cJ5_init_d00df 18 = .ok (.iconst 0, 1) := by decide +kernel
theorem dJ5_init_d00df_19 : decode cJ5_init_d00df 19 = .ok (.putfield 22, 3) := by decide +kernel
theorem dJ5_init_d00df_22 : decode cJ5_init_d00df 22 = .ok (.goto 16, 3) := by decide +kernel
theorem dJ5_init_d00df_25 : decode cJ5_init_d00df 25 = .ok (.aload_n 0, 1) := by decide +kernel
theorem dJ5_init_d00df_26 : decode cJ5_init_d00df 26 = .ok (.iload_n 1, 1) := by decide +kernel
theorem dJ5_init_d00df_27 : decode cJ5_init_d00df 27 = .ok (.invokestatic 26, 3) := by decide +kernel
theorem dJ5_init_d00df_30 : decode cJ5_init_d00df 30 = .ok (.putfield 15, 3) := by decide +kernel
theorem dJ5_init_d00df_33 : decode cJ5_init_d00df 33 = .ok (.aload_n 0, 1) := by decide +kernel
theorem dJ5_init_d00df_34 : decode cJ5_init_d00df 34 = .ok (.iconst 1, 1) := by decide +kernel
theorem dJ5_init_d00df_35 : decode cJ5_init_d00df 35 = .ok (.putfield 22, 3) := by decide +kernel
theorem dJ5_init_d00df_38 : decode cJ5_init_d00df 38 = .ok (.return_, 1) := by decide +kernel
theorem dJ5_length_8abf5_0 : decode cJ5_length_8abf5 0 = .ok (.aload_n 0, 1) := by decide +kernel
theorem dJ5_length_8abf5_1 : decode cJ5_length_8abf5 1 = .ok (.getfield 79, 3) := by decide +kernel
theorem dJ5_length_8abf5_4 : decode cJ5_length_8abf5 4 = .ok (.ireturn, 1) := by decide +kernel
theorem dJ5_ensureCapacityInternal_d00df_0 : decode cJ5_ensureCapacityInternal_d00df 0 = .ok (.aload_n 0, 1) := by decide +kernel
theorem dJ5_ensureCapacityInternal_d00df_1 : decode cJ5_ensureCapacityInternal_d00df 1 = .ok (.getfield 15, 3) := by decide +kernel
theorem dJ5_ensureCapacityInternal_d00df_4 : decode cJ5_ensureCapacityInternal_d00df 4 = .ok (.arraylength, 1) := by decide +kernel
theorem dJ5_ensureCapacityInternal_d00df_5 : decode cJ5_ensureCapacityInternal_d00df 5 = .ok (.aload_n 0, 1) := by decide +kernel
theorem dJ5_ensureCapacityInternal_d00df_6 : decode cJ5_ensureCapacityInternal_d00df 6 = .ok (.getfield 22, 3) := by decide +kernel
theorem dJ5_ensureCapacityInternal_d00df_9 : decode cJ5_ensureCapacityInternal_d00df 9 = .ok (.ishr, 1) := by decide +kernel
theorem dJ5_ensureCapacityInternal_d00df_10 : decode cJ5_ensureCapacityInternal_d00df 10 = .ok (.istore_n 2, 1) := by decide +kernel
theorem dJ5_ensureCapacityInternal_d00df_11 : decode cJ5_ensureCapacityInternal_d00df 11 = .ok (.iload_n 1, 1) := by decide +kernel
theorem dJ5_ensureCapacityInternal_d00df_12 : decode cJ5_ensureCapacityInternal_d00df 12 = .ok (.iload_n 2, 1) := by decide +kernel
theorem dJ5_ensureCapacityInternal_d00df_13 : decode cJ5_ensureCapacityInternal_d00df 13 = .ok (.isub, 1) := by decide +kernel
theorem dJ5_ensureCapacityInternal_d00df_14 : decode cJ5_ensureCapacityInternal_d00df 14 = .ok (.ifCond .le 24, 3) := by decide +kernel
theorem dJ5_ensureCapacityInternal_d00df_17 : decode cJ5_ensureCapacityInternal_d00df 17 = .ok (.aload_n 0, 1) := by decide +kernel
theorem dJ5_ensureCapacityInternal_d00df_18 : decode cJ5_ensureCapacityInternal_d00df 18 = .ok (.aload_n 0, 1) := by decide +kernel
theorem dJ5_ensureCapacityInternal_d00df_19 : decode cJ5_ensureCapacityInternal_d00df 19 = .ok (.getfield 15, 3) := by decide +kernel
theorem dJ5_ensureCapacityInternal_d00df_22 : decode cJ5_ensureCapacityInternal_d00df 22 = .ok (.aload_n 0, 1) := by decide +kernel
theorem dJ5_ensureCapacityInternal_d00df_23 : decode cJ5_ensureCapacityInternal_d00df 23 = .ok (.iload_n 1, 1) := by decide +kernel
theorem dJ5_ensureCapacityInternal_d00df_24 : decode cJ5_ensureCapacityInternal_d00df 24 = .ok (.invokevirtual 104, 3) := by decide +kernel
theorem dJ5_ensureCapacityInternal_d00df_27 : decode cJ5_ensureCapacityInternal_d00df 27 = .ok (.aload_n 0, 1) := by decide +kernel
theorem dJ5_ensureCapacityInternal_d00df_28 : decode cJ5_ensureCapacityInternal_d00df 28 = .ok (.getfield 22, 3) := by decide +kernel
theorem dJ5_ensureCapacityInternal_d00df_31 : decode cJ5_ensureCapacityInternal_d00df 31 = .ok (.ishl, 1) := by decide +kernel
theorem dJ5_ensureCapacityInternal_d00df_32 : decode cJ5_ensureCapacityInternal_d00df 32 = .ok (.invokestatic 108, 3) := by decide +kernel
theorem dJ5_ensureCapacityInternal_d00df_35 : decode cJ5_ensureCapacityInternal_d00df 35 = .ok (.putfield 15, 3) := by decide +kernel
theorem dJ5_ensureCapacityInternal_d00df_38 : decode cJ5_ensureCapacityInternal_d00df 38 = .ok (.return_, 1) := by decide +kernel
theorem dJ5_newCapacity_0f7a4_0 : decode cJ5_newCapacity_0f7a4 0 = .ok (.aload_n 0, 1) := by decide +kernel
theorem dJ5_newCapacity_0f7a4_1 : decode cJ5_newCapacity_0f7a4 1 = .ok (.getfield 15, 3) := by decide +kernel
theorem dJ5_newCapacity_0f7a4_4 : decode cJ5_newCapacity_0f7a4 4 = .ok (.arraylength, 1) := by decide +kernel
theorem dJ5_newCapacity_0f7a4_5 : decode cJ5_newCapacity_0f7a4 5 = .ok (.istore_n 2, 1) := by decide +kernel
theorem dJ5_newCapacity_0f7a4_6 : decode cJ5_newCapacity_0f7a4 6 = .ok (.iload_n 1, 1) := by decide +kernel
theorem dJ5_newCapacity_0f7a4_7 : decode cJ5_newCapacity_0f7a4 7 = .ok (.aload_n 0, 1) := by decide +kernel
theorem dJ5_newCapacity_0f7a4_8 : decode cJ5_newCapacity_0f7a4 8 = .ok (.getfield 22, 3) := by decide +kernel
theorem dJ5_newCapacity_0f7a4_11 : decode cJ5_newCapacity_0f7a4 11 = .ok (.ishl, 1) := by decide +kernel
theorem dJ5_newCapacity_0f7a4_12 : decode cJ5_newCapacity_0f7a4 12 = .ok (.istore_n 3, 1) := by decide +kernel
theorem dJ5_newCapacity_0f7a4_13 : decode cJ5_newCapacity_0f7a4 13 = .ok (.iload_n 3, 1) := by decide +kernel
theorem dJ5_newCapacity_0f7a4_14 : decode cJ5_newCapacity_0f7a4 14 = .ok (.iload_n 2, 1) := by decide +kernel
theorem dJ5_newCapacity_0f7a4_15 : decode cJ5_newCapacity_0f7a4 15 = .ok (.isub, 1) := by decide +kernel
theorem dJ5_newCapacity_0f7a4_16 : decode cJ5_newCapacity_0f7a4 16 = .ok (.istore 4, 2) := by decide +kernel
theorem dJ5_newCapacity_0f7a4_18 : decode cJ5_newCapacity_0f7a4 18 = .ok (.iload_n 2, 1) := by decide +kernel
theorem dJ5_newCapacity_0f7a4_19 : decode cJ5_newCapacity_0f7a4 19 = .ok (.iload 4, 2) := by decide +kernel
theorem dJ5_newCapacity_0f7a4_21 : decode cJ5_newCapacity_0f7a4 21 = .ok (.iload_n 2, 1) := by decide +kernel
theorem dJ5_newCapacity_0f7a4_22 : decode cJ5_newCapacity_0f7a4 22 = .ok (.iconst 2, 1) := by decide +kernel
theorem dJ5_newCapacity_0f7a4_23 : decode cJ5_newCapacity_0f7a4 23 = .ok (.aload_n 0, 1) := by decide +kernel
theorem dJ5_newCapacity_0f7a4_24 : decode cJ5_newCapacity_0f7a4 24 = .ok (.getfield 22, 3) := by decide +kernel
theorem dJ5_newCapacity_0f7a4_27 : decode cJ5_newCapacity_0f7a4 27 = .ok (.ishl, 1) := by decide +kernel
theorem dJ5_newCapacity_0f7a4_28 : decode cJ5_newCapacity_0f7a4 28 = .ok (.iadd, 1) := by decide +kernel
theorem dJ5_newCapacity_0f7a4_29 : decode cJ5_newCapacity_0f7a4 29 = .ok (.invokestatic 114, 3) := by decide +kernel
theorem dJ5_newCapacity_0f7a4_32 : decode cJ5_newCapacity_0f7a4 32 = .ok (.istore 5, 2) := by decide +kernel
theorem dJ5_newCapacity_0f7a4_34 : decode cJ5_newCapacity_0f7a4 34 = .ok (.iload 5, 2) := by decide +kernel
theorem dJ5_newCapacity_0f7a4_36 : decode cJ5_newCapacity_0f7a4 36 = .ok (.ldc 39, 2) := by decide +kernel
theorem dJ5_newCapacity_0f7a4_38 : decode cJ5_newCapacity_0f7a4 38 = .ok (.if_icmp .ne 13, 3) := by decide +kernel
theorem dJ5_newCapacity_0f7a4_41 : decode cJ5_newCapacity_0f7a4 41 = .ok (.new 120, 3) := by decide +kernel
theorem dJ5_newCapacity_0f7a4_44 : decode cJ5_newCapacity_0f7a4 44 = .ok (.dup, 1) := by decide +kernel
theorem dJ5_newCapacity_0f7a4_45 : decode cJ5_newCapacity_0f7a4 45 = .ok (.ldc 122, 2) := by decide +kernel
theorem dJ5_newCapacity_0f7a4_47 : decode cJ5_newCapacity_0f7a4 47 = .ok (.invokespecial 124, 3) := by decide +kernel
theorem dJ5_newCapacity_0f7a4_50 : decode cJ5_newCapacity_0f7a4 50 = .ok (.athrow, 1) := by decide +kernel
theorem dJ5_newCapacity_0f7a4_51 : decode cJ5_newCapacity_0f7a4 51 = .ok (.iload 5, 2) := by decide +kernel
theorem dJ5_newCapacity_0f7a4_53 : decode cJ5_newCapacity_0f7a4 53 = .ok (.aload_n 0, 1) := by decide +kernel
theorem dJ5_newCapacity_0f7a4_54 : decode cJ5_newCapacity_0f7a4 54 = .ok (.getfield 22, 3) := by decide +kernel
theorem dJ5_newCapacity_0f7a4_57 : decode cJ5_newCapacity_0f7a4 57 = .ok (.ishr, 1) := by decide +kernel
theorem dJ5_newCapacity_0f7a4_58 : decode cJ5_newCapacity_0f7a4 58 = .ok (.ireturn, 1) := by decide +kernel
theorem dJ5_inflate_da8c8_0 : decode cJ5_inflate_da8c8 0 = .ok (.aload_n 0, 1) := by decide +kernel
theorem dJ5_inflate_da8c8_1 : decode cJ5_inflate_da8c8 1 = .ok (.invokevirtual 83, 3) := by decide +kernel
theorem dJ5_inflate_da8c8_4 : decode cJ5_inflate_da8c8 4 = .ok (.ifCond .ne 4, 3) := by decide +kernel
theorem dJ5_inflate_da8c8_7 : decode cJ5_inflate_da8c8 7 = .ok (.return_, 1) := by decide +kernel
theorem dJ5_inflate_da8c8_8 : decode cJ5_inflate_da8c8 8 = .ok (.aload_n 0, 1) := by decide +kernel
theorem dJ5_inflate_da8c8_9 : decode cJ5_inflate_da8c8 9 = .ok (.getfield 15, 3) := by decide +kernel
theorem dJ5_inflate_da8c8_12 : decode cJ5_inflate_da8c8 12 = .ok (.arraylength, 1) := by decide +kernel
theorem dJ5_inflate_da8c8_13 : decode cJ5_inflate_da8c8 13 = .ok (.invokestatic 26, 3) := by decide +kernel
theorem dJ5_inflate_da8c8_16 : decode cJ5_inflate_da8c8 16 = .ok (.astore_n 1, 1) := by decide +kernel
theorem dJ5_inflate_da8c8_17 : decode cJ5_inflate_da8c8 17 = .ok (.aload_n 0, 1) := by decide +kernel
theorem dJ5_inflate_da8c8_18 : decode cJ5_inflate_da8c8 18 = .ok (.getfield 15, 3) := by decide +kernel
theorem dJ5_inflate_da8c8_21 : decode cJ5_inflate_da8c8 21 = .ok (.iconst 0, 1) := by decide +kernel
theorem dJ5_inflate_da8c8_22 : decode cJ5_inflate_da8c8 22 = .ok (.aload_n 1, 1) := by decide +kernel
theorem dJ5_inflate_da8c8_23 : decode cJ5_inflate_da8c8 23 = .ok (.iconst 0, 1) := by decide +kernel
theorem dJ5_inflate_da8c8_24 : decode cJ5_inflate_da8c8 24 = .ok (.aload_n 0, 1) := by decide +kernel
theorem dJ5_inflate_da8c8_25 : decode cJ5_inflate_da8c8 25 = .ok (.getfield 79, 3) := by decide +kernel
theorem dJ5_inflate_da8c8_28 : decode cJ5_inflate_da8c8 28 = .ok (.invokestatic 125, 3) := by decide +kernel
theorem dJ5_inflate_da8c8_31 : decode cJ5_inflate_da8c8 31 = .ok (.aload_n 0, 1) := by decide +kernel
theorem dJ5_inflate_da8c8_32 : decode cJ5_inflate_da8c8 32 = .ok (.aload_n 1, 1) := by decide +kernel
theorem dJ5_inflate_da8c8_33 : decode cJ5_inflate_da8c8 33 = .ok (.putfield 15, 3) := by decide +kernel
theorem dJ5_inflate_da8c8_36 : decode cJ5_inflate_da8c8 36 = .ok (.aload_n 0, 1) := by decide +kernel
theorem dJ5_inflate_da8c8_37 : decode cJ5_inflate_da8c8 37 = .ok (.iconst 1, 1) := by decide +kernel
theorem dJ5_inflate_da8c8_38 : decode cJ5_inflate_da8c8 38 = .ok (.putfield 22, 3) := by decide +kernel
theorem dJ5_inflate_da8c8_41 : decode cJ5_inflate_da8c8 41 = .ok (.return_, 1) := by decide +kernel
theorem dJ5_setLength_d00df_0 : decode cJ5_setLength_d00df 0 = .ok (.iload_n 1, 1) := by decide +kernel
theorem dJ5_setLength_d00df_1 : decode cJ5_setLength_d00df 1 = .ok (.ifCond .ge 12, 3) := by decide +kernel
theorem dJ5_setLength_d00df_4 : decode cJ5_setLength_d00df 4 = .ok (.new 129, 3) := by decide +kernel
theorem dJ5_setLength_d00df_7 : decode cJ5_setLength_d00df 7 = .ok (.dup, 1) := by decide +kernel
theorem dJ5_setLength_d00df_8 : decode cJ5_setLength_d00df 8 = .ok (.iload_n 1, 1) := by decide +kernel
theorem dJ5_setLength_d00df_9 : decode cJ5_setLength_d00df 9 = .ok (.invokespecial 131, 3) := by decide +kernel
theorem dJ5_setLength_d00df_12 : decode cJ5_setLength_d00df 12 = .ok (.athrow, 1) := by decide +kernel
theorem dJ5_setLength_d00df_13 : decode cJ5_setLength_d00df 13 = .ok (.aload_n 0, 1) := by decide +kernel
theorem dJ5_setLength_d00df_14 : decode cJ5_setLength_d00df 14 = .ok (.iload_n 1, 1) := by decide +kernel
theorem dJ5_setLength_d00df_15 : decode cJ5_setLength_d00df 15 = .ok (.invokevirtual 100, 3) := by decide +kernel
theorem dJ5_setLength_d00df_18 : decode cJ5_setLength_d00df 18 = .ok (.aload_n 0, 1) := by decide +kernel
theorem dJ5_setLength_d00df_19 : decode cJ5_setLength_d00df 19 = .ok (.getfield 79, 3) := by decide +kernel
theorem dJ5_setLength_d00df_22 : decode cJ5_setLength_d00df 22 = .ok (.iload_n 1, 1) := by decide +kernel
theorem dJ5_setLength_d00df_23 : decode cJ5_setLength_d00df 23 = .ok (.if_icmp .ge 40, 3) := by decide +kernel
theorem dJ5_setLength_d00df_26 : decode cJ5_setLength_d00df 26 = .ok (.aload_n 0, 1) := by decide +kernel
theorem dJ5_setLength_d00df_27 : decode cJ5_setLength_d00df 27 = .ok (.invokevirtual 83, 3) := by decide +kernel
theorem dJ5_setLength_d00df_30 : decode cJ5_setLength_d00df 30 = .ok (.ifCond .eq 18, 3) := by decide +kernel
theorem dJ5_setLength_d00df_33 : decode cJ5_setLength_d00df 33 = .ok (.aload_n 0, 1) := by decide +kernel
theorem dJ5_setLength_d00df_34 : decode cJ5_setLength_d00df 34 = .ok (.getfield 15, 3) := by decide +kernel
theorem dJ5_setLength_d00df_37 : decode cJ5_setLength_d00df 37 = .ok (.aload_n 0, 1) := by decide +kernel
theorem dJ5_setLength_d00df_38 : decode cJ5_setLength_d00df 38 = .ok (.getfield 79, 3) := by decide +kernel
theorem dJ5_setLength_d00df_41 : decode cJ5_setLength_d00df 41 = .ok (.iload_n 1, 1) := by decide +kernel
theorem dJ5_setLength_d00df_42 : decode cJ5_setLength_d00df 42 = .ok (.invokestatic 133, 3) := by decide +kernel
theorem dJ5_setLength_d00df_45 : decode cJ5_setLength_d00df 45 = .ok (.goto 31, 3) := by decide +kernel
theorem dJ5_setLength_d00df_48 : decode cJ5_setLength_d00df 48 = .ok (.aload_n 0, 1) := by decide +kernel
theorem dJ5_setLength_d00df_49 : decode cJ5_setLength_d00df 49 = .ok (.getfield 15, 3) := by decide +kernel
theorem dJ5_setLength_d00df_52 : decode cJ5_setLength_d00df 52 = .ok (.aload_n 0, 1) := by decide +kernel
theorem dJ5_setLength_d00df_53 : decode cJ5_setLength_d00df 53 = .ok (.getfield 79, 3) := by decide +kernel
theorem dJ5_setLength_d00df_56 : decode cJ5_setLength_d00df 56 = .ok (.iload_n 1, 1) := by decide +kernel
theorem dJ5_setLength_d00df_57 : decode cJ5_setLength_d00df 57 = .ok (.invokestatic 137, 3) := by decide +kernel
theorem dJ5_setLength_d00df_60 : decode cJ5_setLength_d00df 60 = .ok (.goto 16, 3) := by decide +kernel
theorem dJ5_setLength_d00df_63 : decode cJ5_setLength_d00df 63 = .ok (.aload_n 0, 1) := by decide +kernel
theorem dJ5_setLength_d00df_64 : decode cJ5_setLength_d00df 64 = .ok (.getfield 79, 3) := by decide +kernel
theorem dJ5_setLength_d00df_67 : decode cJ5_setLength_d00df 67 = .ok (.iload_n 1, 1) := by decide +kernel
theorem dJ5_setLength_d00df_68 : decode cJ5_setLength_d00df 68 = .ok (.if_icmp .le 8, 3) := by decide +kernel
theorem dJ5_setLength_d00df_71 : decode cJ5_setLength_d00df 71 = .ok (.aload_n 0, 1) := by decide +kernel
theorem dJ5_setLength_d00df_72 : decode cJ5_setLength_d00df 72 = .ok (.iconst 1, 1) := by decide +kernel
theorem dJ5_setLength_d00df_73 : decode cJ5_setLength_d00df 73 = .ok (.putfield 73, 3) := by decide +kernel
theorem dJ5_setLength_d00df_76 : decode cJ5_setLength_d00df 76 = .ok (.aload_n 0, 1) := by decide +kernel
theorem dJ5_setLength_d00df_77 : decode cJ5_setLength_d00df 77 = .ok (.iload_n 1, 1) := by decide +kernel
theorem dJ5_setLength_d00df_78 : decode cJ5_setLength_d00df 78 = .ok (.putfield 79, 3) := by decide +kernel
theorem dJ5_setLength_d00df_81 : decode cJ5_setLength_d00df 81 = .ok (.return_, 1) := by decide +kernel
theorem dJ5_append_cf1ce_0 : decode cJ5_append_cf1ce 0 = .ok (.aload_n 1, 1) := by decide +kernel
theorem dJ5_append_cf1ce_1 : decode cJ5_append_cf1ce 1 = .ok (.ifnonnull 8, 3) := by decide +kernel
theorem dJ5_append_cf1ce_4 : decode cJ5_append_cf1ce 4 = .ok (.aload_n 0, 1) := by decide +kernel
theorem dJ5_append_cf1ce_5 : decode cJ5_append_cf1ce 5 = .ok (.invokevirtual 204, 3) := by decide +kernel
theorem dJ5_append_cf1ce_8 : decode cJ5_append_cf1ce 8 = .ok (.areturn, 1) := by decide +kernel
theorem dJ5_append_cf1ce_9 : decode cJ5_append_cf1ce 9 = .ok (.aload_n 1, 1) := by decide +kernel
theorem dJ5_append_cf1ce_10 : decode cJ5_append_cf1ce 10 = .ok (.invokevirtual 32, 3) := by decide +kernel
theorem dJ5_append_cf1ce_13 : decode cJ5_append_cf1ce 13 = .ok (.istore_n 2, 1) := by decide +kernel
theorem dJ5_append_cf1ce_14 : decode cJ5_append_cf1ce 14 = .ok (.aload_n 0, 1) := by decide +kernel
theorem dJ5_append_cf1ce_15 : decode cJ5_append_cf1ce 15 = .ok (.aload_n 0, 1) := by decide +kernel
theorem dJ5_append_cf1ce_16 : decode cJ5_append_cf1ce 16 = .ok (.getfield 79, 3) := by decide +kernel
theorem dJ5_append_cf1ce_19 : decode cJ5_append_cf1ce 19 = .ok (.iload_n 2, 1) := by decide +kernel
theorem dJ5_append_cf1ce_20 : decode cJ5_append_cf1ce 20 = .ok (.iadd, 1) := by decide +kernel
theorem dJ5_append_cf1ce_21 : decode cJ5_append_cf1ce 21 = .ok (.invokevirtual 100, 3) := by decide +kernel
theorem dJ5_append_cf1ce_24 : decode cJ5_append_cf1ce 24 = .ok (.aload_n 0, 1) := by decide +kernel
theorem dJ5_append_cf1ce_25 : decode cJ5_append_cf1ce 25 = .ok (.aload_n 0, 1) := by decide +kernel
theorem dJ5_append_cf1ce_26 : decode cJ5_append_cf1ce 26 = .ok (.getfield 79, 3) := by decide +kernel
theorem dJ5_append_cf1ce_29 : decode cJ5_append_cf1ce 29 = .ok (.aload_n 1, 1) := by decide +kernel
theorem dJ5_append_cf1ce_30 : decode cJ5_append_cf1ce 30 = .ok (.invokevirtual 208, 3) := by decide +kernel
theorem dJ5_append_cf1ce_33 : decode cJ5_append_cf1ce 33 = .ok (.aload_n 0, 1) := by decide +kernel
theorem dJ5_append_cf1ce_34 : decode cJ5_append_cf1ce 34 = .ok (.dup, 1) := by decide +kernel
theorem dJ5_append_cf1ce_35 : decode cJ5_append_cf1ce 35 = .ok (.getfield 79, 3) := by decide +kernel
theorem dJ5_append_cf1ce_38 : decode cJ5_append_cf1ce 38 = .ok (.iload_n 2, 1) := by decide +kernel
theorem dJ5_append_cf1ce_39 : decode cJ5_append_cf1ce 39 = .ok (.iadd, 1) := by decide +kernel
theorem dJ5_append_cf1ce_40 : decode cJ5_append_cf1ce 40 = .ok (.putfield 79, 3) := by decide +kernel
theorem dJ5_append_cf1ce_43 : decode cJ5_append_cf1ce 43 = .ok (.aload_n 0, 1) := by decide +kernel
theorem dJ5_append_cf1ce_44 : decode cJ5_append_cf1ce 44 = .ok (.areturn, 1) := by decide +kernel
theorem dJ5_appendNull_278bc_0 : decode cJ5_appendNull_278bc 0 = .ok (.aload_n 0, 1) := by decide +kernel
theorem dJ5_appendNull_278bc_1 : decode cJ5_appendNull_278bc 1 = .ok (.aload_n 0, 1) := by decide +kernel
theorem dJ5_appendNull_278bc_2 : decode cJ5_appendNull_278bc 2 = .ok (.getfield 79, 3) := by decide +kernel
theorem dJ5_appendNull_278bc_5 : decode cJ5_appendNull_278bc 5 = .ok (.iconst 4, 1) := by decide +kernel
theorem dJ5_appendNull_278bc_6 : decode cJ5_appendNull_278bc 6 = .ok (.iadd, 1) := by decide +kernel
theorem dJ5_appendNull_278bc_7 : decode cJ5_appendNull_278bc 7 = .ok (.invokevirtual 100, 3) := by decide +kernel
theorem dJ5_appendNull_278bc_10 : decode cJ5_appendNull_278bc 10 = .ok (.aload_n 0, 1) := by decide +kernel
theorem dJ5_appendNull_278bc_11 : decode cJ5_appendNull_278bc 11 = .ok (.getfield 79, 3) := by decide +kernel
theorem dJ5_appendNull_278bc_14 : decode cJ5_appendNull_278bc 14 = .ok (.istore_n 1, 1) := by decide +kernel
theorem dJ5_appendNull_278bc_15 : decode cJ5_appendNull_278bc 15 = .ok (.aload_n 0, 1) := by decide +kernel
theorem dJ5_appendNull_278bc_16 : decode cJ5_appendNull_278bc 16 = .ok (.getfield 15, 3) := by decide +kernel
theorem dJ5_appendNull_278bc_19 : decode cJ5_appendNull_278bc 19 = .ok (.astore_n 2, 1) := by decide +kernel
theorem dJ5_appendNull_278bc_20 : decode cJ5_appendNull_278bc 20 = .ok (.aload_n 0, 1) := by decide +kernel
theorem dJ5_appendNull_278bc_21 : decode cJ5_appendNull_278bc 21 = .ok (.invokevirtual 83, 3) := by decide +kernel
theorem dJ5_appendNull_278bc_24 : decode cJ5_appendNull_278bc 24 = .ok (.ifCond .eq 38, 3) := by decide +kernel
theorem dJ5_appendNull_278bc_27 : decode cJ5_appendNull_278bc 27 = .ok (.aload_n 2, 1) := by decide +kernel
theorem dJ5_appendNull_278bc_28 : decode cJ5_appendNull_278bc 28 = .ok (.iload_n 1, 1) := by decide +kernel
theorem dJ5_appendNull_278bc_29 : decode cJ5_appendNull_278bc 29 = .ok (.iinc 1 1, 3) := by decide +kernel
theorem dJ5_appendNull_278bc_32 : decode cJ5_appendNull_278bc 32 = .ok (.bipush 110, 2) := by decide +kernel
theorem dJ5_appendNull_278bc_34 : decode cJ5_appendNull_278bc 34 = .ok (.bastore, 1) := by decide +kernel
theorem dJ5_appendNull_278bc_35 : decode cJ5_appendNull_278bc 35 = .ok (.aload_n 2, 1) := by decide +kernel
theorem dJ5_appendNull_278bc_36 : decode cJ5_appendNull_278bc 36 = .ok (.iload_n 1, 1) := by decide +kernel
theorem dJ5_appendNull_278bc_37 : decode cJ5_appendNull_278bc 37 = .ok (.iinc 1 1, 3) := by decide +kernel
theorem dJ5_appendNull_278bc_40 : decode cJ5_appendNull_278bc 40 = .ok (.bipush 117, 2) := by decide +kernel
theorem dJ5_appendNull_278bc_42 : decode cJ5_appendNull_278bc 42 = .ok (.bastore, 1) := by decide +kernel
theorem dJ5_appendNull_278bc_43 : decode cJ5_appendNull_278bc 43 = .ok (.aload_n 2, 1) := by decide +kernel
theorem dJ5_appendNull_278bc_44 : decode cJ5_appendNull_278bc 44 = .ok (.iload_n 1, 1) := by decide +kernel
theorem dJ5_appendNull_278bc_45 : decode cJ5_appendNull_278bc 45 = .ok (.iinc 1 1, 3) := by decide +kernel
theorem dJ5_appendNull_278bc_48 : decode cJ5_appendNull_278bc 48 = .ok (.bipush 108, 2) := by decide +kernel
theorem dJ5_appendNull_278bc_50 : decode cJ5_appendNull_278bc 50 = .ok (.bastore, 1) := by decide +kernel
theorem dJ5_appendNull_278bc_51 : decode cJ5_appendNull_278bc 51 = .ok (.aload_n 2, 1) := by decide +kernel
theorem dJ5_appendNull_278bc_52 : decode cJ5_appendNull_278bc 52 = .ok (.iload_n 1, 1) := by decide +kernel
theorem dJ5_appendNull_278bc_53 : decode cJ5_appendNull_278bc 53 = .ok (.iinc 1 1, 3) := by decide +kernel
theorem dJ5_appendNull_278bc_56 : decode cJ5_appendNull_278bc 56 = .ok (.bipush 108, 2) := by decide +kernel
theorem dJ5_appendNull_278bc_58 : decode cJ5_appendNull_278bc 58 = .ok (.bastore, 1) := by decide +kernel
theorem dJ5_appendNull_278bc_59 : decode cJ5_appendNull_278bc 59 = .ok (.goto 17, 3) := by decide +kernel
theorem dJ5_appendNull_278bc_62 : decode cJ5_appendNull_278bc 62 = .ok (.aload_n 2, 1) := by decide +kernel
theorem dJ5_appendNull_278bc_63 : decode cJ5_appendNull_278bc 63 = .ok (.iload_n 1, 1) := by decide +kernel
theorem dJ5_appendNull_278bc_64 : decode cJ5_appendNull_278bc 64 = .ok (.bipush 110, 2) := by decide +kernel
theorem dJ5_appendNull_278bc_66 : decode cJ5_appendNull_278bc 66 = .ok (.bipush 117, 2) := by decide +kernel
theorem dJ5_appendNull_278bc_68 : decode cJ5_appendNull_278bc 68 = .ok (.bipush 108, 2) := by decide +kernel
theorem dJ5_appendNull_278bc_70 : decode cJ5_appendNull_278bc 70 = .ok (.bipush 108, 2) := by decide +kernel
theorem dJ5_appendNull_278bc_72 : decode cJ5_appendNull_278bc 72 = .ok (.invokestatic 226, 3) := by decide +kernel
theorem dJ5_appendNull_278bc_75 : decode cJ5_appendNull_278bc 75 = .ok (.istore_n 1, 1) := by decide +kernel
theorem dJ5_appendNull_278bc_76 : decode cJ5_appendNull_278bc 76 = .ok (.aload_n 0, 1) := by decide +kernel
theorem dJ5_appendNull_278bc_77 : decode cJ5_appendNull_278bc 77 = .ok (.iload_n 1, 1) := by decide +kernel
theorem dJ5_appendNull_278bc_78 : decode cJ5_appendNull_278bc 78 = .ok (.putfield 79, 3) := by decide +kernel
theorem dJ5_appendNull_278bc_81 : decode cJ5_appendNull_278bc 81 = .ok (.aload_n 0, 1) := by decide +kernel
theorem dJ5_appendNull_278bc_82 : decode cJ5_appendNull_278bc 82 = .ok (.areturn, 1) := by decide +kernel
theorem dJ5_append_3fe6f_0 : decode cJ5_append_3fe6f 0 = .ok (.aload_n 0, 1) := by decide +kernel
theorem dJ5_append_3fe6f_1 : decode cJ5_append_3fe6f 1 = .ok (.aload_n 0, 1) := by decide +kernel
theorem dJ5_append_3fe6f_2 : decode cJ5_append_3fe6f 2 = .ok (.getfield 79, 3) := by decide +kernel
theorem dJ5_append_3fe6f_5 : decode cJ5_append_3fe6f 5 = .ok (.iconst 1, 1) := by decide +kernel
theorem dJ5_append_3fe6f_6 : decode cJ5_append_3fe6f 6 = .ok (.iadd, 1) := by decide +kernel
theorem dJ5_append_3fe6f_7 : decode cJ5_append_3fe6f 7 = .ok (.invokevirtual 100, 3) := by decide +kernel
theorem dJ5_append_3fe6f_10 : decode cJ5_append_3fe6f 10 = .ok (.aload_n 0, 1) := by decide +kernel
theorem dJ5_append_3fe6f_11 : decode cJ5_append_3fe6f 11 = .ok (.invokevirtual 83, 3) := by decide +kernel
theorem dJ5_append_3fe6f_14 : decode cJ5_append_3fe6f 14 = .ok (.ifCond .eq 31, 3) := by decide +kernel
theorem dJ5_append_3fe6f_17 : decode cJ5_append_3fe6f 17 = .ok (.iload_n 1, 1) := by decide +kernel
theorem dJ5_append_3fe6f_18 : decode cJ5_append_3fe6f 18 = .ok (.invokestatic 191, 3) := by decide +kernel
theorem dJ5_append_3fe6f_21 : decode cJ5_append_3fe6f 21 = .ok (.ifCond .eq 24, 3) := by decide +kernel
theorem dJ5_append_3fe6f_24 : decode cJ5_append_3fe6f 24 = .ok (.aload_n 0, 1) := by decide +kernel
theorem dJ5_append_3fe6f_25 : decode cJ5_append_3fe6f 25 = .ok (.getfield 15, 3) := by decide +kernel
theorem dJ5_append_3fe6f_28 : decode cJ5_append_3fe6f 28 = .ok (.aload_n 0, 1) := by decide +kernel
theorem dJ5_append_3fe6f_29 : decode cJ5_append_3fe6f 29 = .ok (.dup, 1) := by decide +kernel
theorem dJ5_append_3fe6f_30 : decode cJ5_append_3fe6f 30 = .ok (.getfield 79, 3) := by decide +kernel
theorem dJ5_append_3fe6f_33 : decode cJ5_append_3fe6f 33 = .ok (.dup_x1, 1) := by decide +kernel
theorem dJ5_append_3fe6f_34 : decode cJ5_append_3fe6f 34 = .ok (.iconst 1, 1) := by decide +kernel
theorem dJ5_append_3fe6f_35 : decode cJ5_append_3fe6f 35 = .ok (.iadd, 1) := by decide +kernel
theorem dJ5_append_3fe6f_36 : decode cJ5_append_3fe6f 36 = .ok (.putfield 79, 3) := by decide +kernel
theorem dJ5_append_3fe6f_39 : decode cJ5_append_3fe6f 39 = .ok (.iload_n 1, 1) := by decide +kernel
theorem dJ5_append_3fe6f_40 : decode cJ5_append_3fe6f 40 = .ok (.i2b, 1) := by decide +kernel
theorem dJ5_append_3fe6f_41 : decode cJ5_append_3fe6f 41 = .ok (.bastore, 1) := by decide +kernel
theorem dJ5_append_3fe6f_42 : decode cJ5_append_3fe6f 42 = .ok (.goto 33, 3) := by decide +kernel
theorem dJ5_append_3fe6f_45 : decode cJ5_append_3fe6f 45 = .ok (.aload_n 0, 1) := by decide +kernel
theorem dJ5_append_3fe6f_46 : decode cJ5_append_3fe6f 46 = .ok (.invokevirtual 83, 3) := by decide +kernel
theorem dJ5_append_3fe6f_49 : decode cJ5_append_3fe6f 49 = .ok (.ifCond .eq 7, 3) := by decide +kernel
theorem dJ5_append_3fe6f_52 : decode cJ5_append_3fe6f 52 = .ok (.aload_n 0, 1) := by decide +kernel
theorem dJ5_append_3fe6f_53 : decode cJ5_append_3fe6f 53 = .ok (.invokevirtual 195, 3) := by decide +kernel
theorem dJ5_append_3fe6f_56 : decode cJ5_append_3fe6f 56 = .ok (.aload_n 0, 1) := by decide +kernel
theorem dJ5_append_3fe6f_57 : decode cJ5_append_3fe6f 57 = .ok (.getfield 15, 3) := by decide +kernel
theorem dJ5_append_3fe6f_60 : decode cJ5_append_3fe6f 60 = .ok (.aload_n 0, 1) := by decide +kernel
theorem dJ5_append_3fe6f_61 : decode cJ5_append_3fe6f 61 = .ok (.dup, 1) := by decide +kernel
theorem dJ5_append_3fe6f_62 : decode cJ5_append_3fe6f 62 = .ok (.getfield 79, 3) := by decide +kernel
theorem dJ5_append_3fe6f_65 : decode cJ5_append_3fe6f 65 = .ok (.dup_x1, 1) := by decide +kernel
theorem dJ5_append_3fe6f_66 : decode cJ5_append_3fe6f 66 = .ok (.iconst 1, 1) := by decide +kernel
theorem dJ5_append_3fe6f_67 : decode cJ5_append_3fe6f 67 = .ok (.iadd, 1) := by decide +kernel
theorem dJ5_append_3fe6f_68 : decode cJ5_append_3fe6f 68 = .ok (.putfield 79, 3) := by decide +kernel
theorem dJ5_append_3fe6f_71 : decode cJ5_append_3fe6f 71 = .ok (.iload_n 1, 1) := by decide +kernel
theorem dJ5_append_3fe6f_72 : decode cJ5_append_3fe6f 72 = .ok (.invokestatic 197, 3) := by decide +kernel
theorem dJ5_append_3fe6f_75 : decode cJ5_append_3fe6f 75 = .ok (.aload_n 0, 1) := by decide +kernel
theorem dJ5_append_3fe6f_76 : decode cJ5_append_3fe6f 76 = .ok (.areturn, 1) := by decide +kernel
theorem dJ5_append_c97b9_0 : decode cJ5_append_c97b9 0 = .ok (.aload_n 0, 1) := by decide +kernel
theorem dJ5_append_c97b9_1 : decode cJ5_append_c97b9 1 = .ok (.getfield 79, 3) := by decide +kernel
theorem dJ5_append_c97b9_4 : decode cJ5_append_c97b9 4 = .ok (.istore_n 2, 1) := by decide +kernel
theorem dJ5_append_c97b9_5 : decode cJ5_append_c97b9 5 = .ok (.iload_n 2, 1) := by decide +kernel
theorem dJ5_append_c97b9_6 : decode cJ5_append_c97b9 6 = .ok (.iload_n 1, 1) := by decide +kernel
theorem dJ5_append_c97b9_7 : decode cJ5_append_c97b9 7 = .ok (.invokestatic 245, 3) := by decide +kernel
theorem dJ5_append_c97b9_10 : decode cJ5_append_c97b9 10 = .ok (.iadd, 1) := by decide +kernel
theorem dJ5_append_c97b9_11 : decode cJ5_append_c97b9 11 = .ok (.istore_n 3, 1) := by decide +kernel
theorem dJ5_append_c97b9_12 : decode cJ5_append_c97b9 12 = .ok (.aload_n 0, 1) := by decide +kernel
theorem dJ5_append_c97b9_13 : decode cJ5_append_c97b9 13 = .ok (.iload_n 3, 1) := by decide +kernel
theorem dJ5_append_c97b9_14 : decode cJ5_append_c97b9 14 = .ok (.invokevirtual 100, 3) := by decide +kernel
theorem dJ5_append_c97b9_17 : decode cJ5_append_c97b9 17 = .ok (.aload_n 0, 1) := by decide +kernel
theorem dJ5_append_c97b9_18 : decode cJ5_append_c97b9 18 = .ok (.invokevirtual 83, 3) := by decide +kernel
theorem dJ5_append_c97b9_21 : decode cJ5_append_c97b9 21 = .ok (.ifCond .eq 16, 3) := by decide +kernel
theorem dJ5_append_c97b9_24 : decode cJ5_append_c97b9 24 = .ok (.iload_n 1, 1) := by decide +kernel
theorem dJ5_append_c97b9_25 : decode cJ5_append_c97b9 25 = .ok (.iload_n 3, 1) := by decide +kernel
theorem dJ5_append_c97b9_26 : decode cJ5_append_c97b9 26 = .ok (.aload_n 0, 1) := by decide +kernel
theorem dJ5_append_c97b9_27 : decode cJ5_append_c97b9 27 = .ok (.getfield 15, 3) := by decide +kernel
theorem dJ5_append_c97b9_30 : decode cJ5_append_c97b9 30 = .ok (.invokestatic 248, 3) := by decide +kernel
theorem dJ5_append_c97b9_33 : decode cJ5_append_c97b9 33 = .ok (.pop, 1) := by decide +kernel
theorem dJ5_append_c97b9_34 : decode cJ5_append_c97b9 34 = .ok (.goto 14, 3) := by decide +kernel
theorem dJ5_append_c97b9_37 : decode cJ5_append_c97b9 37 = .ok (.iload_n 1, 1) := by decide +kernel
theorem dJ5_append_c97b9_38 : decode cJ5_append_c97b9 38 = .ok (.iload_n 2, 1) := by decide +kernel
theorem dJ5_append_c97b9_39 : decode cJ5_append_c97b9 39 = .ok (.iload_n 3, 1) := by decide +kernel
theorem dJ5_append_c97b9_40 : decode cJ5_append_c97b9 40 = .ok (.aload_n 0, 1) := by decide +kernel
theorem dJ5_append_c97b9_41 : decode cJ5_append_c97b9 41 = .ok (.getfield 15, 3) := by decide +kernel
theorem dJ5_append_c97b9_44 : decode cJ5_append_c97b9 44 = .ok (.invokestatic 251, 3) := by decide +kernel
theorem dJ5_append_c97b9_47 : decode cJ5_append_c97b9 47 = .ok (.pop, 1) := by decide +kernel
theorem dJ5_append_c97b9_48 : decode cJ5_append_c97b9 48 = .ok (.aload_n 0, 1) := by decide +kernel
theorem dJ5_append_c97b9_49 : decode cJ5_append_c97b9 49 = .ok (.iload_n 3, 1) := by decide +kernel
theorem dJ5_append_c97b9_50 : decode cJ5_append_c97b9 50 = .ok (.putfield 79, 3) := by decide +kernel
theorem dJ5_append_c97b9_53 : decode cJ5_append_c97b9 53 = .ok (.aload_n 0, 1) := by decide +kernel
theorem dJ5_append_c97b9_54 : decode cJ5_append_c97b9 54 = .ok (.areturn, 1) := by decide +kernel
theorem dJ5_getValue_6d5f1_0 : decode cJ5_getValue_6d5f1 0 = .ok (.aload_n 0, 1) := by decide +kernel
theorem dJ5_getValue_6d5f1_1 : decode cJ5_getValue_6d5f1 1 = .ok (.getfield 15, 3) := by decide +kernel
theorem dJ5_getValue_6d5f1_4 : decode cJ5_getValue_6d5f1 4 = .ok (.areturn, 1) := by decide +kernel
theorem dJ5_isLatin1_aae02_0 : decode cJ5_isLatin1_aae02 0 = .ok (.getstatic 18, 3) := by decide +kernel
theorem dJ5_isLatin1_aae02_3 : decode cJ5_isLatin1_aae02 3 = .ok (.ifCond .eq 14, 3) := by decide +kernel
theorem dJ5_isLatin1_aae02_6 : decode cJ5_isLatin1_aae02 6 = .ok (.aload_n 0, 1) := by decide +kernel
theorem dJ5_isLatin1_aae02_7 : decode cJ5_isLatin1_aae02 7 = .ok (.getfield 22, 3) := by decide +kernel
theorem dJ5_isLatin1_aae02_10 : decode cJ5_isLatin1_aae02 10 = .ok (.ifCond .ne 7, 3) := by decide +kernel
theorem dJ5_isLatin1_aae02_13 : decode cJ5_isLatin1_aae02 13 = .ok (.iconst 1, 1) := by decide +kernel
theorem dJ5_isLatin1_aae02_14 : decode cJ5_isLatin1_aae02 14 = .ok (.goto 4, 3) := by decide +kernel
theorem dJ5_isLatin1_aae02_17 : decode cJ5_isLatin1_aae02 17 = .ok (.iconst 0, 1) := by decide +kernel
theorem dJ5_isLatin1_aae02_18 : decode cJ5_isLatin1_aae02 18 = .ok (.ireturn, 1) := by decide +kernel
theorem dJ5_inflateIfNeededFor_a7421_0 : decode cJ5_inflateIfNeededFor_a7421 0 = .ok (.getstatic 18, 3) := by decide +kernel
theorem dJ5_inflateIfNeededFor_a7421_3 : decode cJ5_inflateIfNeededFor_a7421 3 = .ok (.ifCond .eq 18, 3) := by decide +kernel
theorem dJ5_inflateIfNeededFor_a7421_6 : decode cJ5_inflateIfNeededFor_a7421 6 = .ok (.aload_n 0, 1) := by decide +kernel
theorem dJ5_inflateIfNeededFor_a7421_7 : decode cJ5_inflateIfNeededFor_a7421 7 = .ok (.getfield 22, 3) := by decide +kernel
theorem dJ5_inflateIfNeededFor_a7421_10 : decode cJ5_inflateIfNeededFor_a7421 10 = .ok (.aload_n 1, 1) := by decide +kernel
theorem dJ5_inflateIfNeededFor_a7421_11 : decode cJ5_inflateIfNeededFor_a7421 11 = .ok (.invokevirtual 40, 3) := by decide +kernel
theorem dJ5_inflateIfNeededFor_a7421_14 : decode cJ5_inflateIfNeededFor_a7421 14 = .ok (.if_icmp .eq 7, 3) := by decide +kernel
theorem dJ5_inflateIfNeededFor_a7421_17 : decode cJ5_inflateIfNeededFor_a7421 17 = .ok (.aload_n 0, 1) := by decide +kernel
theorem dJ5_inflateIfNeededFor_a7421_18 : decode cJ5_inflateIfNeededFor_a7421 18 = .ok (.invokevirtual 195, 3) := by decide +kernel
theorem dJ5_inflateIfNeededFor_a7421_21 : decode cJ5_inflateIfNeededFor_a7421 21 = .ok (.return_, 1) := by decide +kernel
theorem dJ5_putStringAt_47b60_0 : decode cJ5_putStringAt_47b60 0 = .ok (.aload_n 0, 1) := by decide +kernel
theorem dJ5_putStringAt_47b60_1 : decode cJ5_putStringAt_47b60 1 = .ok (.aload_n 2, 1) := by decide +kernel
theorem dJ5_putStringAt_47b60_2 : decode cJ5_putStringAt_47b60 2 = .ok (.invokevirtual 397, 3) := by decide +kernel
theorem dJ5_putStringAt_47b60_5 : decode cJ5_putStringAt_47b60 5 = .ok (.aload_n 2, 1) := by decide +kernel
theorem dJ5_putStringAt_47b60_6 : decode cJ5_putStringAt_47b60 6 = .ok (.aload_n 0, 1) := by decide +kernel
theorem dJ5_putStringAt_47b60_7 : decode cJ5_putStringAt_47b60 7 = .ok (.getfield 15, 3) := by decide +kernel
theorem dJ5_putStringAt_47b60_10 : decode cJ5_putStringAt_47b60 10 = .ok (.iload_n 1, 1) := by decide +kernel
theorem dJ5_putStringAt_47b60_11 : decode cJ5_putStringAt_47b60 11 = .ok (.aload_n 0, 1) := by decide +kernel
theorem dJ5_putStringAt_47b60_12 : decode cJ5_putStringAt_47b60 12 = .ok (.getfield 22, 3) := by decide +kernel
theorem dJ5_putStringAt_47b60_15 : decode cJ5_putStringAt_47b60 15 = .ok (.invokevirtual 399, 3) := by decide +kernel
theorem dJ5_putStringAt_47b60_18 : decode cJ5_putStringAt_47b60 18 = .ok (.return_, 1) := by decide +kernel
theorem dJ6_getChars_ba4f3_0 : decode cJ6_getChars_ba4f3 0 = .ok (.iload_n 1, 1) := by decide +kernel
theorem dJ6_getChars_ba4f3_1 : decode cJ6_getChars_ba4f3 1 = .ok (.istore 5, 2) := by decide +kernel
theorem dJ6_getChars_ba4f3_3 : decode cJ6_getChars_ba4f3 3 = .ok (.iload_n 0, 1) := by decide +kernel
theorem dJ6_getChars_ba4f3_4 : decode cJ6_getChars_ba4f3 4 = .ok (.ifCond .ge 7, 3) := by decide +kernel
theorem dJ6_getChars_ba4f3_7 : decode cJ6_getChars_ba4f3 7 = .ok (.iconst 1, 1) := by decide +kernel
theorem dJ6_getChars_ba4f3_8 : decode cJ6_getChars_ba4f3 8 = .ok (.goto 4, 3) := by decide +kernel
theorem dJ6_getChars_ba4f3_11 : decode cJ6_getChars_ba4f3 11 = .ok (.iconst 0, 1) := by decide +kernel
theorem dJ6_getChars_ba4f3_12 : decode cJ6_getChars_ba4f3 12 = .ok (.istore 6, 2) := by decide +kernel
theorem dJ6_getChars_ba4f3_14 : decode cJ6_getChars_ba4f3 14 = .ok (.iload 6, 2) := by decide +kernel
theorem dJ6_getChars_ba4f3_16 : decode cJ6_getChars_ba4f3 16 = .ok (.ifCond .ne 6, 3) := by decide +kernel
theorem dJ6_getChars_ba4f3_19 : decode cJ6_getChars_ba4f3 19 = .ok (.iload_n 0, 1) := by decide +kernel
theorem dJ6_getChars_ba4f3_20 : decode cJ6_getChars_ba4f3 20 = .ok (.ineg, 1) := by decide +kernel
theorem dJ6_getChars_ba4f3_21 : decode cJ6_getChars_ba4f3 21 = .ok (.istore_n 0, 1) := by decide +kernel
theorem dJ6_getChars_ba4f3_22 : decode cJ6_getChars_ba4f3 22 = .ok (.iload_n 0, 1) := by decide +kernel
theorem dJ6_getChars_ba4f3_23 : decode cJ6_getChars_ba4f3 23 = .ok (.bipush (-100), 2) := by decide +kernel
theorem dJ6_getChars_ba4f3_25 : decode cJ6_getChars_ba4f3 25 = .ok (.if_icmp .gt 47, 3) := by decide +kernel
theorem dJ6_getChars_ba4f3_28 : decode cJ6_getChars_ba4f3 28 = .ok (.iload_n 0, 1) := by decide +kernel
theorem dJ6_getChars_ba4f3_29 : decode cJ6_getChars_ba4f3 29 = .ok (.bipush 100, 2) := by decide +kernel
theorem dJ6_getChars_ba4f3_31 : decode cJ6_getChars_ba4f3 31 = .ok (.idiv, 1) := by decide +kernel
theorem dJ6_getChars_ba4f3_32 : decode cJ6_getChars_ba4f3 32 = .ok (.istore_n 3, 1) := by decide +kernel
theorem dJ6_getChars_ba4f3_33 : decode cJ6_getChars_ba4f3 33 = .ok (.iload_n 3, 1) := by decide +kernel
theorem dJ6_getChars_ba4f3_34 : decode cJ6_getChars_ba4f3 34 = .ok (.bipush 100, 2) := by decide +kernel
theorem dJ6_getChars_ba4f3_36 : decode cJ6_getChars_ba4f3 36 = .ok (.imul, 1) := by decide +kernel
theorem dJ6_getChars_ba4f3_37 : decode cJ6_getChars_ba4f3 37 = .ok (.iload_n 0, 1) := by decide +kernel
theorem dJ6_getChars_ba4f3_38 : decode cJ6_getChars_ba4f3 38 = .ok (.isub, 1) := by decide +kernel
theorem dJ6_getChars_ba4f3_39 : decode cJ6_getChars_ba4f3 39 = .ok (.istore 4, 2) := by decide +kernel
theorem dJ6_getChars_ba4f3_41 : decode cJ6_getChars_ba4f3 41 = .ok (.iload_n 3, 1) := by decide +kernel
theorem dJ6_getChars_ba4f3_42 : decode cJ6_getChars_ba4f3 42 = .ok (.istore_n 0, 1) := by decide +kernel
theorem dJ6_getChars_ba4f3_43 : decode cJ6_getChars_ba4f3 43 = .ok (.aload_n 2, 1) := by decide +kernel
theorem dJ6_getChars_ba4f3_44 : decode cJ6_getChars_ba4f3 44 = .ok (.iinc 5 (-1), 3) := by decide +kernel
theorem dJ6_getChars_ba4f3_47 : decode cJ6_getChars_ba4f3 47 = .ok (.iload 5, 2) := by decide +kernel
theorem dJ6_getChars_ba4f3_49 : decode cJ6_getChars_ba4f3 49 = .ok (.getstatic 83, 3) := by decide +kernel
theorem dJ6_getChars_ba4f3_52 : decode cJ6_getChars_ba4f3 52 = .ok (.iload 4, 2) := by decide +kernel
theorem dJ6_getChars_ba4f3_54 : decode cJ6_getChars_ba4f3 54 = .ok (.baload, 1) := by decide +kernel
theorem dJ6_getChars_ba4f3_55 : decode cJ6_getChars_ba4f3 55 = .ok (.bastore, 1) := by decide +kernel
theorem dJ6_getChars_ba4f3_56 : decode cJ6_getChars_ba4f3 56 = .ok (.aload_n 2, 1) := by decide +kernel
theorem dJ6_getChars_ba4f3_57 : decode cJ6_getChars_ba4f3 57 = .ok (.iinc 5 (-1), 3) := by decide +kernel
theorem dJ6_getChars_ba4f3_60 : decode cJ6_getChars_ba4f3 60 = .ok (.iload 5, 2) := by decide +kernel
theorem dJ6_getChars_ba4f3_62 : decode cJ6_getChars_ba4f3 62 = .ok (.getstatic 87, 3) := by decide +kernel
theorem dJ6_getChars_ba4f3_65 : decode cJ6_getChars_ba4f3 65 = .ok (.iload 4, 2) := by decide +kernel
theorem dJ6_getChars_ba4f3_67 : decode cJ6_getChars_ba4f3 67 = .ok (.baload, 1) := by decide +kernel
theorem dJ6_getChars_ba4f3_68 : decode cJ6_getChars_ba4f3 68 = .ok (.bastore, 1) := by decide +kernel
theorem dJ6_getChars_ba4f3_69 : decode cJ6_getChars_ba4f3 69 = .ok (.goto (-47), 3) := by decide +kernel
theorem dJ6_getChars_ba4f3_72 : decode cJ6_getChars_ba4f3 72 = .ok (.aload_n 2, 1) := by decide +kernel
theorem dJ6_getChars_ba4f3_73 : decode cJ6_getChars_ba4f3 73 = .ok (.iinc 5 (-1), 3) := by decide +kernel
theorem dJ6_getChars_ba4f3_76 : decode cJ6_getChars_ba4f3 76 = .ok (.iload 5, 2) := by decide +kernel
theorem dJ6_getChars_ba4f3_78 : decode cJ6_getChars_ba4f3 78 = .ok (.getstatic 83, 3) := by decide +kernel
theorem dJ6_getChars_ba4f3_81 : decode cJ6_getChars_ba4f3 81 = .ok (.iload_n 0, 1) := by decide +kernel
theorem dJ6_getChars_ba4f3_82 : decode cJ6_getChars_ba4f3 82 = .ok (.ineg, 1) := by decide +kernel
theorem dJ6_getChars_ba4f3_83 : decode cJ6_getChars_ba4f3 83 = .ok (.baload, 1) := by decide +kernel
theorem dJ6_getChars_ba4f3_84 : decode cJ6_getChars_ba4f3 84 = .ok (.bastore, 1) := by decide +kernel
theorem dJ6_getChars_ba4f3_85 : decode cJ6_getChars_ba4f3 85 = .ok (.iload_n 0, 1) := by decide +kernel
theorem dJ6_getChars_ba4f3_86 : decode cJ6_getChars_ba4f3 86 = .ok (.bipush (-9), 2) := by decide +kernel
theorem dJ6_getChars_ba4f3_88 : decode cJ6_getChars_ba4f3 88 = .ok (.if_icmp .ge 16, 3) := by decide +kernel
theorem dJ6_getChars_ba4f3_91 : decode cJ6_getChars_ba4f3 91 = .ok (.aload_n 2, 1) := by decide +kernel
theorem dJ6_getChars_ba4f3_92 : decode cJ6_getChars_ba4f3 92 = .ok (.iinc 5 (-1), 3) := by decide +kernel
theorem dJ6_getChars_ba4f3_95 : decode cJ6_getChars_ba4f3 95 = .ok (.iload 5, 2) := by decide +kernel
theorem dJ6_getChars_ba4f3_97 : decode cJ6_getChars_ba4f3 97 = .ok (.getstatic 87, 3) := by decide +kernel
theorem dJ6_getChars_ba4f3_100 : decode cJ6_getChars_ba4f3 100 = .ok (.iload_n 0, 1) := by decide +kernel
theorem dJ6_getChars_ba4f3_101 : decode cJ6_getChars_ba4f3 101 = .ok (.ineg, 1) := by decide +kernel
theorem dJ6_getChars_ba4f3_102 : decode cJ6_getChars_ba4f3 102 = .ok (.baload, 1) := by decide +kernel
theorem dJ6_getChars_ba4f3_103 : decode cJ6_getChars_ba4f3 103 = .ok (.bastore, 1) := by decide +kernel
theorem dJ6_getChars_ba4f3_104 : decode cJ6_getChars_ba4f3 104 = .ok (.iload 6, 2) := by decide +kernel
theorem dJ6_getChars_ba4f3_106 : decode cJ6_getChars_ba4f3 106 = .ok (.ifCond .eq 12, 3) := by decide +kernel
theorem dJ6_getChars_ba4f3_109 : decode cJ6_getChars_ba4f3 109 = .ok (.aload_n 2, 1) := by decide +kernel
theorem dJ6_getChars_ba4f3_110 : decode cJ6_getChars_ba4f3 110 = .ok (.iinc 5 (-1), 3) := by decide +kernel
theorem dJ6_getChars_ba4f3_113 : decode cJ6_getChars_ba4f3 113 = .ok (.iload 5, 2) := by decide +kernel
theorem dJ6_getChars_ba4f3_115 : decode cJ6_getChars_ba4f3 115 = .ok (.bipush 45, 2) := by decide +kernel
theorem dJ6_getChars_ba4f3_117 : decode cJ6_getChars_ba4f3 117 = .ok (.bastore, 1) := by decide +kernel
theorem dJ6_getChars_ba4f3_118 : decode cJ6_getChars_ba4f3 118 = .ok (.iload 5, 2) := by decide +kernel
theorem dJ6_getChars_ba4f3_120 : decode cJ6_getChars_ba4f3 120 = .ok (.ireturn, 1) := by decide +kernel
theorem dJ6_stringSize_0f7a4_0 : decode cJ6_stringSize_0f7a4 0 = .ok (.iconst 1, 1) := by decide +kernel
theorem dJ6_stringSize_0f7a4_1 : decode cJ6_stringSize_0f7a4 1 = .ok (.istore_n 1, 1) := by decide +kernel
theorem dJ6_stringSize_0f7a4_2 : decode cJ6_stringSize_0f7a4 2 = .ok (.iload_n 0, 1) := by decide +kernel
theorem dJ6_stringSize_0f7a4_3 : decode cJ6_stringSize_0f7a4 3 = .ok (.ifCond .lt 8, 3) := by decide +kernel
theorem dJ6_stringSize_0f7a4_6 : decode cJ6_stringSize_0f7a4 6 = .ok (.iconst 0, 1) := by decide +kernel
theorem dJ6_stringSize_0f7a4_7 : decode cJ6_stringSize_0f7a4 7 = .ok (.istore_n 1, 1) := by decide +kernel
theorem dJ6_stringSize_0f7a4_8 : decode cJ6_stringSize_0f7a4 8 = .ok (.iload_n 0, 1) := by decide +kernel
theorem dJ6_stringSize_0f7a4_9 : decode cJ6_stringSize_0f7a4 9 = .ok (.ineg, 1) := by decide +kernel
theorem dJ6_stringSize_0f7a4_10 : decode cJ6_stringSize_0f7a4 10 = .ok (.istore_n 0, 1) := by decide +kernel
theorem dJ6_stringSize_0f7a4_11 : decode cJ6_stringSize_0f7a4 11 = .ok (.bipush (-10), 2) := by decide +kernel
theorem dJ6_stringSize_0f7a4_13 : decode cJ6_stringSize_0f7a4 13 = .ok (.istore_n 2, 1) := by decide +kernel
theorem dJ6_stringSize_0f7a4_14 : decode cJ6_stringSize_0f7a4 14 = .ok (.iconst 1, 1) := by decide +kernel
theorem dJ6_stringSize_0f7a4_15 : decode cJ6_stringSize_0f7a4 15 = .ok (.istore_n 3, 1) := by decide +kernel
theorem dJ6_stringSize_0f7a4_16 : decode cJ6_stringSize_0f7a4 16 = .ok (.iload_n 3, 1) := by decide +kernel
theorem dJ6_stringSize_0f7a4_17 : decode cJ6_stringSize_0f7a4 17 = .ok (.bipush 10, 2) := by decide +kernel
theorem dJ6_stringSize_0f7a4_19 : decode cJ6_stringSize_0f7a4 19 = .ok (.if_icmp .ge 23, 3) := by decide +kernel
theorem dJ6_stringSize_0f7a4_22 : decode cJ6_stringSize_0f7a4 22 = .ok (.iload_n 0, 1) := by decide +kernel
theorem dJ6_stringSize_0f7a4_23 : decode cJ6_stringSize_0f7a4 23 = .ok (.iload_n 2, 1) := by decide +kernel
theorem dJ6_stringSize_0f7a4_24 : decode cJ6_stringSize_0f7a4 24 = .ok (.if_icmp .le 7, 3) := by decide +kernel
theorem dJ6_stringSize_0f7a4_27 : decode cJ6_stringSize_0f7a4 27 = .ok (.iload_n 3, 1) := by decide +kernel
theorem dJ6_stringSize_0f7a4_28 : decode cJ6_stringSize_0f7a4 28 = .ok (.iload_n 1, 1) := by decide +kernel
theorem dJ6_stringSize_0f7a4_29 : decode cJ6_stringSize_0f7a4 29 = .ok (.iadd, 1) := by decide +kernel
theorem dJ6_stringSize_0f7a4_30 : decode cJ6_stringSize_0f7a4 30 = .ok (.ireturn, 1) := by decide +kernel
theorem dJ6_stringSize_0f7a4_31 : decode cJ6_stringSize_0f7a4 31 = .ok (.bipush 10, 2) := by decide +kernel
theorem dJ6_stringSize_0f7a4_33 : decode cJ6_stringSize_0f7a4 33 = .ok (.iload_n 2, 1) := by decide +kernel
theorem dJ6_stringSize_0f7a4_34 : decode cJ6_stringSize_0f7a4 34 = .ok (.imul, 1) := by decide +kernel
theorem dJ6_stringSize_0f7a4_35 : decode cJ6_stringSize_0f7a4 35 = .ok (.istore_n 2, 1) := by decide +kernel
theorem dJ6_stringSize_0f7a4_36 : decode cJ6_stringSize_0f7a4 36 = .ok (.iinc 3 1, 3) := by decide +kernel
theorem dJ6_stringSize_0f7a4_39 : decode cJ6_stringSize_0f7a4 39 = .ok (.goto (-23), 3) := by decide +kernel
theorem dJ6_stringSize_0f7a4_42 : decode cJ6_stringSize_0f7a4 42 = .ok (.bipush 10, 2) := by decide +kernel
theorem dJ6_stringSize_0f7a4_44 : decode cJ6_stringSize_0f7a4 44 = .ok (.iload_n 1, 1) := by decide +kernel
theorem dJ6_stringSize_0f7a4_45 : decode cJ6_stringSize_0f7a4 45 = .ok (.iadd, 1) := by decide +kernel
theorem dJ6_stringSize_0f7a4_46 : decode cJ6_stringSize_0f7a4 46 = .ok (.ireturn, 1) := by decide +kernel
theorem dJ6_valueOf_2dffe_0 : decode cJ6_valueOf_2dffe 0 = .ok (.iload_n 0, 1) := by decide +kernel
theorem dJ6_valueOf_2dffe_1 : decode cJ6_valueOf_2dffe 1 = .ok (.bipush (-128), 2) := by decide +kernel
theorem dJ6_valueOf_2dffe_3 : decode cJ6_valueOf_2dffe 3 = .ok (.if_icmp .lt 20, 3) := by decide +kernel
theorem dJ6_valueOf_2dffe_6 : decode cJ6_valueOf_2dffe 6 = .ok (.iload_n 0, 1) := by decide +kernel
theorem dJ6_valueOf_2dffe_7 : decode cJ6_valueOf_2dffe 7 = .ok (.getstatic 191, 3) := by decide +kernel
theorem dJ6_valueOf_2dffe_10 : decode cJ6_valueOf_2dffe 10 = .ok (.if_icmp .gt 13, 3) := by decide +kernel
theorem dJ6_valueOf_2dffe_13 : decode cJ6_valueOf_2dffe 13 = .ok (.getstatic 195, 3) := by decide +kernel
theorem dJ6_valueOf_2dffe_16 : decode cJ6_valueOf_2dffe 16 = .ok (.iload_n 0, 1) := by decide +kernel
theorem dJ6_valueOf_2dffe_17 : decode cJ6_valueOf_2dffe 17 = .ok (.sipush 128, 3) := by decide +kernel
theorem dJ6_valueOf_2dffe_20 : decode cJ6_valueOf_2dffe 20 = .ok (.iadd, 1) := by decide +kernel
theorem dJ6_valueOf_2dffe_21 : decode cJ6_valueOf_2dffe 21 = .ok (.aaload, 1) := by decide +kernel
theorem dJ6_valueOf_2dffe_22 : decode cJ6_valueOf_2dffe 22 = .ok (.areturn, 1) := by decide +kernel
theorem dJ6_valueOf_2dffe_23 : decode cJ6_valueOf_2dffe 23 = .ok (.new 1, 3) := by decide +kernel
theorem dJ6_valueOf_2dffe_26 : decode cJ6_valueOf_2dffe 26 = .ok (.dup, 1) := by decide +kernel
theorem dJ6_valueOf_2dffe_27 : decode cJ6_valueOf_2dffe 27 = .ok (.iload_n 0, 1) := by decide +kernel
theorem dJ6_valueOf_2dffe_28 : decode cJ6_valueOf_2dffe 28 = .ok (.invokespecial 199, 3) := by decide +kernel
theorem dJ6_valueOf_2dffe_31 : decode cJ6_valueOf_2dffe 31 = .ok (.areturn, 1) := by decide +kernel
theorem dJ6_init_d00df_0 : decode cJ6_init_d00df 0 = .ok (.aload_n 0, 1) := by decide +kernel
theorem dJ6_init_d00df_1 : decode cJ6_init_d00df 1 = .ok (.invokespecial 202, 3) := by decide +kernel
theorem dJ6_init_d00df_4 : decode cJ6_init_d00df 4 = .ok (.aload_n 0, 1) := by decide +kernel
theorem dJ6_init_d00df_5 : decode cJ6_init_d00df 5 = .ok (.iload_n 1, 1) := by decide +kernel
theorem dJ6_init_d00df_6 : decode cJ6_init_d00df 6 = .ok (.putfield 205, 3) := by decide +kernel
theorem dJ6_init_d00df_9 : decode cJ6_init_d00df 9 = .ok (.return_, 1) := by decide +kernel
theorem dJ6_intValue_8abf5_0 : decode cJ6_intValue_8abf5 0 = .ok (.aload_n 0, 1) := by decide +kernel
theorem dJ6_intValue_8abf5_1 : decode cJ6_intValue_8abf5 1 = .ok (.getfield 205, 3) := by decide +kernel
theorem dJ6_intValue_8abf5_4 : decode cJ6_intValue_8abf5 4 = .ok (.ireturn, 1) := by decide +kernel
theorem dJ9_max_7cf53_0 : decode cJ9_max_7cf53 0 = .ok (.iload_n 0, 1) := by decide +kernel
theorem dJ9_max_7cf53_1 : decode cJ9_max_7cf53 1 = .ok (.iload_n 1, 1) := by decide +kernel
theorem dJ9_max_7cf53_2 : decode cJ9_max_7cf53 2 = .ok (.if_icmp .lt 7, 3) := by decide +kernel
theorem dJ9_max_7cf53_5 : decode cJ9_max_7cf53 5 = .ok (.iload_n 0, 1) := by decide +kernel
theorem dJ9_max_7cf53_6 : decode cJ9_max_7cf53 6 = .ok (.goto 4, 3) := by decide +kernel
theorem dJ9_max_7cf53_9 : decode cJ9_max_7cf53 9 = .ok (.iload_n 1, 1) := by decide +kernel
theorem dJ9_max_7cf53_10 : decode cJ9_max_7cf53 10 = .ok (.ireturn, 1) := by decide +kernel
theorem dJ9_min_7cf53_0 : decode cJ9_min_7cf53 0 = .ok (.iload_n 0, 1) := by decide +kernel
theorem dJ9_min_7cf53_1 : decode cJ9_min_7cf53 1 = .ok (.iload_n 1, 1) := by decide +kernel
theorem dJ9_min_7cf53_2 : decode cJ9_min_7cf53 2 = .ok (.if_icmp .gt 7, 3) := by decide +kernel
theorem dJ9_min_7cf53_5 : decode cJ9_min_7cf53 5 = .ok (.iload_n 0, 1) := by decide +kernel
theorem dJ9_min_7cf53_6 : decode cJ9_min_7cf53 6 = .ok (.goto 4, 3) := by decide +kernel
theorem dJ9_min_7cf53_9 : decode cJ9_min_7cf53 9 = .ok (.iload_n 1, 1) := by decide +kernel
theorem dJ9_min_7cf53_10 : decode cJ9_min_7cf53 10 = .ok (.ireturn, 1) := by decide +kernel
theorem dJxd2413_init_da8c8_0 : decode cJxd2413_init_da8c8 0 = .ok (.aload_n 0, 1) := by decide +kernel
theorem dJxd2413_init_da8c8_1 : decode cJxd2413_init_da8c8 1 = .ok (.invokespecial 1, 3) := by decide +kernel
theorem dJxd2413_init_da8c8_4 : decode cJxd2413_init_da8c8 4 = .ok (.return_, 1) := by decide +kernel
theorem dJ0_init_81219_0 : decode cJ0_init_81219 0 = .ok (.aload_n 0, 1) := by decide +kernel
theorem dJ0_init_81219_1 : decode cJ0_init_81219 1 = .ok (.aload_n 1, 1) := by decide +kernel
theorem dJ0_init_81219_2 : decode cJ0_init_81219 2 = .ok (.aconst_null, 1) := by decide +kernel
theorem dJ0_init_81219_3 : decode cJ0_init_81219 3 = .ok (.invokespecial 489, 3) := by decide +kernel
theorem dJ0_init_81219_6 : decode cJ0_init_81219 6 = .ok (.return_, 1) := by decide +kernel
theorem dJ0_length_8abf5_0 : decode cJ0_length_8abf5 0 = .ok (.aload_n 0, 1) := by decide +kernel
theorem dJ0_length_8abf5_1 : decode cJ0_length_8abf5 1 = .ok (.getfield 9, 3) := by decide +kernel
theorem dJ0_length_8abf5_4 : decode cJ0_length_8abf5 4 = .ok (.arraylength, 1) := by decide +kernel
theorem dJ0_length_8abf5_5 : decode cJ0_length_8abf5 5 = .ok (.aload_n 0, 1) := by decide +kernel
theorem dJ0_length_8abf5_6 : decode cJ0_length_8abf5 6 = .ok (.invokevirtual 335, 3) := by decide +kernel
theorem dJ0_length_8abf5_9 : decode cJ0_length_8abf5 9 = .ok (.ishr, 1) := by decide +kernel
theorem dJ0_length_8abf5_10 : decode cJ0_length_8abf5 10 = .ok (.ireturn, 1) := by decide +kernel
theorem dJ0_charAt_5068e_0 : decode cJ0_charAt_5068e 0 = .ok (.aload_n 0, 1) := by decide +kernel
theorem dJ0_charAt_5068e_1 : decode cJ0_charAt_5068e 1 = .ok (.invokevirtual 492, 3) := by decide +kernel
theorem dJ0_charAt_5068e_4 : decode cJ0_charAt_5068e 4 = .ok (.ifCond .eq 12, 3) := by decide +kernel
theorem dJ0_charAt_5068e_7 : decode cJ0_charAt_5068e 7 = .ok (.aload_n 0, 1) := by decide +kernel
theorem dJ0_charAt_5068e_8 : decode cJ0_charAt_5068e 8 = .ok (.getfield 9, 3) := by decide +kernel
theorem dJ0_charAt_5068e_11 : decode cJ0_charAt_5068e 11 = .ok (.iload_n 1, 1) := by decide +kernel
theorem dJ0_charAt_5068e_12 : decode cJ0_charAt_5068e 12 = .ok (.invokestatic 495, 3) := by decide +kernel
theorem dJ0_charAt_5068e_15 : decode cJ0_charAt_5068e 15 = .ok (.ireturn, 1) := by decide +kernel
theorem dJ0_charAt_5068e_16 : decode cJ0_charAt_5068e 16 = .ok (.aload_n 0, 1) := by decide +kernel
theorem dJ0_charAt_5068e_17 : decode cJ0_charAt_5068e 17 = .ok (.getfield 9, 3) := by decide +kernel
theorem dJ0_charAt_5068e_20 : decode cJ0_charAt_5068e 20 = .ok (.iload_n 1, 1) := by decide +kernel
theorem dJ0_charAt_5068e_21 : decode cJ0_charAt_5068e 21 = .ok (.invokestatic 498, 3) := by decide +kernel
theorem dJ0_charAt_5068e_24 : decode cJ0_charAt_5068e 24 = .ok (.ireturn, 1) := by decide +kernel
theorem dJ0_getBytes_840e7_0 : decode cJ0_getBytes_840e7 0 = .ok (.aload_n 0, 1) := by decide +kernel
theorem dJ0_getBytes_840e7_1 : decode cJ0_getBytes_840e7 1 = .ok (.invokevirtual 335, 3) := by decide +kernel
theorem dJ0_getBytes_840e7_4 : decode cJ0_getBytes_840e7 4 = .ok (.iload_n 3, 1) := by decide +kernel
theorem dJ0_getBytes_840e7_5 : decode cJ0_getBytes_840e7 5 = .ok (.if_icmp .ne 23, 3) := by decide +kernel
theorem dJ0_getBytes_840e7_8 : decode cJ0_getBytes_840e7 8 = .ok (.aload_n 0, 1) := by decide +kernel
theorem dJ0_getBytes_840e7_9 : decode cJ0_getBytes_840e7 9 = .ok (.getfield 9, 3) := by decide +kernel
theorem dJ0_getBytes_840e7_12 : decode cJ0_getBytes_840e7 12 = .ok (.iconst 0, 1) := by decide +kernel
theorem dJ0_getBytes_840e7_13 : decode cJ0_getBytes_840e7 13 = .ok (.aload_n 1, 1) := by decide +kernel
theorem dJ0_getBytes_840e7_14 : decode cJ0_getBytes_840e7 14 = .ok (.iload_n 2, 1) := by decide +kernel
theorem dJ0_getBytes_840e7_15 : decode cJ0_getBytes_840e7 15 = .ok (.iload_n 3, 1) := by decide +kernel
theorem dJ0_getBytes_840e7_16 : decode cJ0_getBytes_840e7 16 = .ok (.ishl, 1) := by decide +kernel
theorem dJ0_getBytes_840e7_17 : decode cJ0_getBytes_840e7 17 = .ok (.aload_n 0, 1) := by decide +kernel
theorem dJ0_getBytes_840e7_18 : decode cJ0_getBytes_840e7 18 = .ok (.getfield 9, 3) := by decide +kernel
theorem dJ0_getBytes_840e7_21 : decode cJ0_getBytes_840e7 21 = .ok (.arraylength, 1) := by decide +kernel
theorem dJ0_getBytes_840e7_22 : decode cJ0_getBytes_840e7 22 = .ok (.invokestatic 212, 3) := by decide +kernel
theorem dJ0_getBytes_840e7_25 : decode cJ0_getBytes_840e7 25 = .ok (.goto 18, 3) := by decide +kernel
theorem dJ0_getBytes_840e7_28 : decode cJ0_getBytes_840e7 28 = .ok (.aload_n 0, 1) := by decide +kernel
theorem dJ0_getBytes_840e7_29 : decode cJ0_getBytes_840e7 29 = .ok (.getfield 9, 3) := by decide +kernel
theorem dJ0_getBytes_840e7_32 : decode cJ0_getBytes_840e7 32 = .ok (.iconst 0, 1) := by decide +kernel
theorem dJ0_getBytes_840e7_33 : decode cJ0_getBytes_840e7 33 = .ok (.aload_n 1, 1) := by decide +kernel
theorem dJ0_getBytes_840e7_34 : decode cJ0_getBytes_840e7 34 = .ok (.iload_n 2, 1) := by decide +kernel
theorem dJ0_getBytes_840e7_35 : decode cJ0_getBytes_840e7 35 = .ok (.aload_n 0, 1) := by decide +kernel
theorem dJ0_getBytes_840e7_36 : decode cJ0_getBytes_840e7 36 = .ok (.getfield 9, 3) := by decide +kernel
theorem dJ0_getBytes_840e7_39 : decode cJ0_getBytes_840e7 39 = .ok (.arraylength, 1) := by decide +kernel
theorem dJ0_getBytes_840e7_40 : decode cJ0_getBytes_840e7 40 = .ok (.invokestatic 106, 3) := by decide +kernel
theorem dJ0_getBytes_840e7_43 : decode cJ0_getBytes_840e7 43 = .ok (.return_, 1) := by decide +kernel
theorem dJ0_init_db425_0 : decode cJ0_init_db425 0 = .ok (.aload_n 0, 1) := by decide +kernel
theorem dJ0_init_db425_1 : decode cJ0_init_db425 1 = .ok (.invokespecial 1, 3) := by decide +kernel
theorem dJ0_init_db425_4 : decode cJ0_init_db425 4 = .ok (.aload_n 1, 1) := by decide +kernel
theorem dJ0_init_db425_5 : decode cJ0_init_db425 5 = .ok (.invokevirtual 552, 3) := by decide +kernel
theorem dJ0_init_db425_8 : decode cJ0_init_db425 8 = .ok (.astore_n 3, 1) := by decide +kernel
theorem dJ0_init_db425_9 : decode cJ0_init_db425 9 = .ok (.aload_n 1, 1) := by decide +kernel
theorem dJ0_init_db425_10 : decode cJ0_init_db425 10 = .ok (.invokevirtual 549, 3) := by decide +kernel
theorem dJ0_init_db425_13 : decode cJ0_init_db425 13 = .ok (.istore 4, 2) := by decide +kernel
theorem dJ0_init_db425_15 : decode cJ0_init_db425 15 = .ok (.aload_n 1, 1) := by decide +kernel
theorem dJ0_init_db425_16 : decode cJ0_init_db425 16 = .ok (.invokevirtual 1047, 3) := by decide +kernel
theorem dJ0_init_db425_19 : decode cJ0_init_db425 19 = .ok (.ifCond .eq 22, 3) := by decide +kernel
theorem dJ0_init_db425_22 : decode cJ0_init_db425 22 = .ok (.aload_n 0, 1) := by decide +kernel
theorem dJ0_init_db425_23 : decode cJ0_init_db425 23 = .ok (.iconst 0, 1) := by decide +kernel
theorem dJ0_init_db425_24 : decode cJ0_init_db425 24 = .ok (.putfield 15, 3) := by decide +kernel
theorem dJ0_init_db425_27 : decode cJ0_init_db425 27 = .ok (.aload_n 0, 1) := by decide +kernel
theorem dJ0_init_db425_28 : decode cJ0_init_db425 28 = .ok (.aload_n 3, 1) := by decide +kernel
theorem dJ0_init_db425_29 : decode cJ0_init_db425 29 = .ok (.iconst 0, 1) := by decide +kernel
theorem dJ0_init_db425_30 : decode cJ0_init_db425 30 = .ok (.iload 4, 2) := by decide +kernel
theorem dJ0_init_db425_32 : decode cJ0_init_db425 32 = .ok (.invokestatic 54, 3) := by decide +kernel
theorem dJ0_init_db425_35 : decode cJ0_init_db425 35 = .ok (.putfield 9, 3) := by decide +kernel
theorem dJ0_init_db425_38 : decode cJ0_init_db425 38 = .ok (.goto 59, 3) := by decide +kernel
theorem dJ0_init_db425_41 : decode cJ0_init_db425 41 = .ok (.getstatic 38, 3) := by decide +kernel
theorem dJ0_init_db425_44 : decode cJ0_init_db425 44 = .ok (.ifCond .eq 35, 3) := by decide +kernel
theorem dJ0_init_db425_47 : decode cJ0_init_db425 47 = .ok (.aload_n 1, 1) := by decide +kernel
theorem dJ0_init_db425_48 : decode cJ0_init_db425 48 = .ok (.getfield 1048, 3) := by decide +kernel
theorem dJ0_init_db425_51 : decode cJ0_init_db425 51 = .ok (.ifCond .eq 28, 3) := by decide +kernel
theorem dJ0_init_db425_54 : decode cJ0_init_db425 54 = .ok (.aload_n 0, 1) := by decide +kernel
theorem dJ0_init_db425_55 : decode cJ0_init_db425 55 = .ok (.aload_n 3, 1) := by decide +kernel
theorem dJ0_init_db425_56 : decode cJ0_init_db425 56 = .ok (.iconst 0, 1) := by decide +kernel
theorem dJ0_init_db425_57 : decode cJ0_init_db425 57 = .ok (.iload 4, 2) := by decide +kernel
theorem dJ0_init_db425_59 : decode cJ0_init_db425 59 = .ok (.invokestatic 1051, 3) := by decide +kernel
theorem dJ0_init_db425_62 : decode cJ0_init_db425 62 = .ok (.putfield 9, 3) := by decide +kernel
theorem dJ0_init_db425_65 : decode cJ0_init_db425 65 = .ok (.aload_n 0, 1) := by decide +kernel
theorem dJ0_init_db425_66 : decode cJ0_init_db425 66 = .ok (.aload_n 0, 1) := by decide +kernel
theorem dJ0_init_db425_67 : decode cJ0_init_db425 67 = .ok (.getfield 9, 3) := by decide +kernel
theorem dJ0_init_db425_70 : decode cJ0_init_db425 70 = .ok (.iload 4, 2) := by decide +kernel
theorem dJ0_init_db425_72 : decode cJ0_init_db425 72 = .ok (.invokestatic 47, 3) := by decide +kernel
theorem dJ0_init_db425_75 : decode cJ0_init_db425 75 = .ok (.putfield 15, 3) := by decide +kernel
theorem dJ0_init_db425_78 : decode cJ0_init_db425 78 = .ok (.return_, 1) := by decide +kernel
theorem dJ0_init_db425_79 : decode cJ0_init_db425 79 = .ok (.aload_n 0, 1) := by decide +kernel
theorem dJ0_init_db425_80 : decode cJ0_init_db425 80 = .ok (.iconst 1, 1) := by decide +kernel
theorem dJ0_init_db425_81 : decode cJ0_init_db425 81 = .ok (.putfield 15, 3) := by decide +kernel
theorem dJ0_init_db425_84 : decode cJ0_init_db425 84 = .ok (.aload_n 0, 1) := by decide +kernel
theorem dJ0_init_db425_85 : decode cJ0_init_db425 85 = .ok (.aload_n 3, 1) := by decide +kernel
theorem dJ0_init_db425_86 : decode cJ0_init_db425 86 = .ok (.iconst 0, 1) := by decide +kernel
theorem dJ0_init_db425_87 : decode cJ0_init_db425 87 = .ok (.iload 4, 2) := by decide +kernel
theorem dJ0_init_db425_89 : decode cJ0_init_db425 89 = .ok (.iconst 1, 1) := by decide +kernel
theorem dJ0_init_db425_90 : decode cJ0_init_db425 90 = .ok (.ishl, 1) := by decide +kernel
theorem dJ0_init_db425_91 : decode cJ0_init_db425 91 = .ok (.invokestatic 54, 3) := by decide +kernel
theorem dJ0_init_db425_94 : decode cJ0_init_db425 94 = .ok (.putfield 9, 3) := by decide +kernel
theorem dJ0_init_db425_97 : decode cJ0_init_db425 97 = .ok (.return_, 1) := by decide +kernel
theorem dJ0_coder_7d493_0 : decode cJ0_coder_7d493 0 = .ok (.getstatic 38, 3) := by decide +kernel
theorem dJ0_coder_7d493_3 : decode cJ0_coder_7d493 3 = .ok (.ifCond .eq 10, 3) := by decide +kernel
theorem dJ0_coder_7d493_6 : decode cJ0_coder_7d493 6 = .ok (.aload_n 0, 1) := by decide +kernel
theorem dJ0_coder_7d493_7 : decode cJ0_coder_7d493 7 = .ok (.getfield 15, 3) := by decide +kernel
theorem dJ0_coder_7d493_10 : decode cJ0_coder_7d493 10 = .ok (.goto 4, 3) := by decide +kernel
theorem dJ0_coder_7d493_13 : decode cJ0_coder_7d493 13 = .ok (.iconst 1, 1) := by decide +kernel
theorem dJ0_coder_7d493_14 : decode cJ0_coder_7d493 14 = .ok (.ireturn, 1) := by decide +kernel
theorem dJ0_isLatin1_aae02_0 : decode cJ0_isLatin1_aae02 0 = .ok (.getstatic 38, 3) := by decide +kernel
theorem dJ0_isLatin1_aae02_3 : decode cJ0_isLatin1_aae02 3 = .ok (.ifCond .eq 14, 3) := by decide +kernel
theorem dJ0_isLatin1_aae02_6 : decode cJ0_isLatin1_aae02 6 = .ok (.aload_n 0, 1) := by decide +kernel
theorem dJ0_isLatin1_aae02_7 : decode cJ0_isLatin1_aae02 7 = .ok (.getfield 15, 3) := by decide +kernel
theorem dJ0_isLatin1_aae02_10 : decode cJ0_isLatin1_aae02 10 = .ok (.ifCond .ne 7, 3) := by decide +kernel
theorem dJ0_isLatin1_aae02_13 : decode cJ0_isLatin1_aae02 13 = .ok (.iconst 1, 1) := by decide +kernel
theorem dJ0_isLatin1_aae02_14 : decode cJ0_isLatin1_aae02 14 = .ok (.goto 4, 3) := by decide +kernel
theorem dJ0_isLatin1_aae02_17 : decode cJ0_isLatin1_aae02 17 = .ok (.iconst 0, 1) := by decide +kernel
theorem dJ0_isLatin1_aae02_18 : decode cJ0_isLatin1_aae02 18 = .ok (.ireturn, 1) := by decide +kernel
theorem dJ0_checkIndex_df160_0 : decode cJ0_checkIndex_df160 0 = .ok (.iload_n 0, 1) := by decide +kernel
theorem dJ0_checkIndex_df160_1 : decode cJ0_checkIndex_df160 1 = .ok (.iload_n 1, 1) := by decide +kernel
theorem dJ0_checkIndex_df160_2 : decode cJ0_checkIndex_df160 2 = .ok (.getstatic 1053, 3) := by decide +kernel
theorem dJ0_checkIndex_df160_5 : decode cJ0_checkIndex_df160 5 = .ok (.invokestatic 1059, 3) := by decide +kernel
theorem dJ0_checkIndex_df160_8 : decode cJ0_checkIndex_df160 8 = .ok (.pop, 1) := by decide +kernel
theorem dJ0_checkIndex_df160_9 : decode cJ0_checkIndex_df160 9 = .ok (.return_, 1) := by decide +kernel
theorem dJ0_checkBoundsOffCount_cabcc_0 : decode cJ0_checkBoundsOffCount_cabcc 0 = .ok (.iload_n 0, 1) := by decide +kernel
theorem dJ0_checkBoundsOffCount_cabcc_1 : decode cJ0_checkBoundsOffCount_cabcc 1 = .ok (.iload_n 1, 1) := by decide +kernel
theorem dJ0_checkBoundsOffCount_cabcc_2 : decode cJ0_checkBoundsOffCount_cabcc 2 = .ok (.iload_n 2, 1) := by decide +kernel
theorem dJ0_checkBoundsOffCount_cabcc_3 : decode cJ0_checkBoundsOffCount_cabcc 3 = .ok (.getstatic 1053, 3) := by decide +kernel
theorem dJ0_checkBoundsOffCount_cabcc_6 : decode cJ0_checkBoundsOffCount_cabcc 6 = .ok (.invokestatic 1065, 3) := by decide +kernel
theorem dJ0_checkBoundsOffCount_cabcc_9 : decode cJ0_checkBoundsOffCount_cabcc 9 = .ok (.ireturn, 1) := by decide +kernel
theorem dJ0_checkBoundsBeginEnd_23922_0 : decode cJ0_checkBoundsBeginEnd_23922 0 = .ok (.iload_n 0, 1) := by decide +kernel
theorem dJ0_checkBoundsBeginEnd_23922_1 : decode cJ0_checkBoundsBeginEnd_23922 1 = .ok (.iload_n 1, 1) := by decide +kernel
theorem dJ0_checkBoundsBeginEnd_23922_2 : decode cJ0_checkBoundsBeginEnd_23922 2 = .ok (.iload_n 2, 1) := by decide +kernel
theorem dJ0_checkBoundsBeginEnd_23922_3 : decode cJ0_checkBoundsBeginEnd_23922 3 = .ok (.getstatic 1053, 3) := by decide +kernel
theorem dJ0_checkBoundsBeginEnd_23922_6 : decode cJ0_checkBoundsBeginEnd_23922 6 = .ok (.invokestatic 1062, 3) := by decide +kernel
theorem dJ0_checkBoundsBeginEnd_23922_9 : decode cJ0_checkBoundsBeginEnd_23922 9 = .ok (.pop, 1) := by decide +kernel
theorem dJ0_checkBoundsBeginEnd_23922_10 : decode cJ0_checkBoundsBeginEnd_23922 10 = .ok (.return_, 1) := by decide +kernel
theorem dJ4_init_da8c8_0 : decode cJ4_init_da8c8 0 = .ok (.aload_n 0, 1) := by decide +kernel
theorem dJ4_init_da8c8_1 : decode cJ4_init_da8c8 1 = .ok (.bipush 16, 2) := by decide +kernel
theorem dJ4_init_da8c8_3 : decode cJ4_init_da8c8 3 = .ok (.invokespecial 1, 3) := by decide +kernel
theorem dJ4_init_da8c8_6 : decode cJ4_init_da8c8 6 = .ok (.return_, 1) := by decide +kernel
theorem dJ4_append_15ec4_0 : decode cJ4_append_15ec4 0 = .ok (.aload_n 0, 1) := by decide +kernel
theorem dJ4_append_15ec4_1 : decode cJ4_append_15ec4 1 = .ok (.aload_n 1, 1) := by decide +kernel
theorem dJ4_append_15ec4_2 : decode cJ4_append_15ec4 2 = .ok (.invokespecial 29, 3) := by decide +kernel
theorem dJ4_append_15ec4_5 : decode cJ4_append_15ec4 5 = .ok (.pop, 1) := by decide +kernel
theorem dJ4_append_15ec4_6 : decode cJ4_append_15ec4 6 = .ok (.aload_n 0, 1) := by decide +kernel
theorem dJ4_append_15ec4_7 : decode cJ4_append_15ec4 7 = .ok (.areturn, 1) := by decide +kernel
theorem dJ4_append_cf468_0 : decode cJ4_append_cf468 0 = .ok (.aload_n 0, 1) := by decide +kernel
theorem dJ4_append_cf468_1 : decode cJ4_append_cf468 1 = .ok (.iload_n 1, 1) := by decide +kernel
theorem dJ4_append_cf468_2 : decode cJ4_append_cf468 2 = .ok (.invokespecial 50, 3) := by decide +kernel
theorem dJ4_append_cf468_5 : decode cJ4_append_cf468 5 = .ok (.pop, 1) := by decide +kernel
theorem dJ4_append_cf468_6 : decode cJ4_append_cf468 6 = .ok (.aload_n 0, 1) := by decide +kernel
theorem dJ4_append_cf468_7 : decode cJ4_append_cf468 7 = .ok (.areturn, 1) := by decide +kernel
theorem dJ4_append_bf812_0 : decode cJ4_append_bf812 0 = .ok (.aload_n 0, 1) := by decide +kernel
theorem dJ4_append_bf812_1 : decode cJ4_append_bf812 1 = .ok (.iload_n 1, 1) := by decide +kernel
theorem dJ4_append_bf812_2 : decode cJ4_append_bf812 2 = .ok (.invokespecial 53, 3) := by decide +kernel
theorem dJ4_append_bf812_5 : decode cJ4_append_bf812 5 = .ok (.pop, 1) := by decide +kernel
theorem dJ4_append_bf812_6 : decode cJ4_append_bf812 6 = .ok (.aload_n 0, 1) := by decide +kernel
theorem dJ4_append_bf812_7 : decode cJ4_append_bf812 7 = .ok (.areturn, 1) := by decide +kernel
theorem dJ4_toString_0e30d_0 : decode cJ4_toString_0e30d 0 = .ok (.new 18, 3) := by decide +kernel
theorem dJ4_toString_0e30d_3 : decode cJ4_toString_0e30d 3 = .ok (.dup, 1) := by decide +kernel
theorem dJ4_toString_0e30d_4 : decode cJ4_toString_0e30d 4 = .ok (.aload_n 0, 1) := by decide +kernel
theorem dJ4_toString_0e30d_5 : decode cJ4_toString_0e30d 5 = .ok (.invokespecial 137, 3) := by decide +kernel
theorem dJ4_toString_0e30d_8 : decode cJ4_toString_0e30d 8 = .ok (.areturn, 1) := by decide +kernel
theorem dJ4_setLength_d00df_0 : decode cJ4_setLength_d00df 0 = .ok (.aload_n 0, 1) := by decide +kernel
theorem dJ4_setLength_d00df_1 : decode cJ4_setLength_d00df 1 = .ok (.iload_n 1, 1) := by decide +kernel
theorem dJ4_setLength_d00df_2 : decode cJ4_setLength_d00df 2 = .ok (.invokespecial 333, 3) := by decide +kernel
theorem dJ4_setLength_d00df_5 : decode cJ4_setLength_d00df 5 = .ok (.return_, 1) := by decide +kernel
theorem dJ4_length_8abf5_0 : decode cJ4_length_8abf5 0 = .ok (.aload_n 0, 1) := by decide +kernel
theorem dJ4_length_8abf5_1 : decode cJ4_length_8abf5 1 = .ok (.invokespecial 343, 3) := by decide +kernel
theorem dJ4_length_8abf5_4 : decode cJ4_length_8abf5 4 = .ok (.ireturn, 1) := by decide +kernel
theorem dJ1_charAt_3b067_0 : decode cJ1_charAt_3b067 0 = .ok (.iload_n 1, 1) := by decide +kernel
theorem dJ1_charAt_3b067_1 : decode cJ1_charAt_3b067 1 = .ok (.aload_n 0, 1) := by decide +kernel
theorem dJ1_charAt_3b067_2 : decode cJ1_charAt_3b067 2 = .ok (.arraylength, 1) := by decide +kernel
theorem dJ1_charAt_3b067_3 : decode cJ1_charAt_3b067 3 = .ok (.invokestatic 9, 3) := by decide +kernel
theorem dJ1_charAt_3b067_6 : decode cJ1_charAt_3b067 6 = .ok (.aload_n 0, 1) := by decide +kernel
theorem dJ1_charAt_3b067_7 : decode cJ1_charAt_3b067 7 = .ok (.iload_n 1, 1) := by decide +kernel
theorem dJ1_charAt_3b067_8 : decode cJ1_charAt_3b067 8 = .ok (.baload, 1) := by decide +kernel
theorem dJ1_charAt_3b067_9 : decode cJ1_charAt_3b067 9 = .ok (.sipush 255, 3) := by decide +kernel
theorem dJ1_charAt_3b067_12 : decode cJ1_charAt_3b067 12 = .ok (.iand, 1) := by decide +kernel
theorem dJ1_charAt_3b067_13 : decode cJ1_charAt_3b067 13 = .ok (.i2c, 1) := by decide +kernel
theorem dJ1_charAt_3b067_14 : decode cJ1_charAt_3b067 14 = .ok (.ireturn, 1) := by decide +kernel
theorem dJ1_canEncode_fc78d_0 : decode cJ1_canEncode_fc78d 0 = .ok (.iload_n 0, 1) := by decide +kernel
theorem dJ1_canEncode_fc78d_1 : decode cJ1_canEncode_fc78d 1 = .ok (.sipush 255, 3) := by decide +kernel
theorem dJ1_canEncode_fc78d_4 : decode cJ1_canEncode_fc78d 4 = .ok (.if_icmp .gt 7, 3) := by decide +kernel
theorem dJ1_canEncode_fc78d_7 : decode cJ1_canEncode_fc78d 7 = .ok (.iconst 1, 1) := by decide +kernel
theorem dJ1_canEncode_fc78d_8 : decode cJ1_canEncode_fc78d 8 = .ok (.goto 4, 3) := by decide +kernel
theorem dJ1_canEncode_fc78d_11 : decode cJ1_canEncode_fc78d 11 = .ok (.iconst 0, 1) := by decide +kernel
theorem dJ1_canEncode_fc78d_12 : decode cJ1_canEncode_fc78d 12 = .ok (.ireturn, 1) := by decide +kernel
theorem dJ1_fillNull_b72d1_0 : decode cJ1_fillNull_b72d1 0 = .ok (.aload_n 0, 1) := by decide +kernel
theorem dJ1_fillNull_b72d1_1 : decode cJ1_fillNull_b72d1 1 = .ok (.iload_n 1, 1) := by decide +kernel
theorem dJ1_fillNull_b72d1_2 : decode cJ1_fillNull_b72d1 2 = .ok (.iload_n 2, 1) := by decide +kernel
theorem dJ1_fillNull_b72d1_3 : decode cJ1_fillNull_b72d1 3 = .ok (.iconst 0, 1) := by decide +kernel
theorem dJ1_fillNull_b72d1_4 : decode cJ1_fillNull_b72d1 4 = .ok (.invokestatic 236, 3) := by decide +kernel
theorem dJ1_fillNull_b72d1_7 : decode cJ1_fillNull_b72d1 7 = .ok (.return_, 1) := by decide +kernel
theorem dJ1_inflate_0e8fd_0 : decode cJ1_inflate_0e8fd 0 = .ok (.aload_n 0, 1) := by decide +kernel
theorem dJ1_inflate_0e8fd_1 : decode cJ1_inflate_0e8fd 1 = .ok (.iload_n 1, 1) := by decide +kernel
theorem dJ1_inflate_0e8fd_2 : decode cJ1_inflate_0e8fd 2 = .ok (.aload_n 2, 1) := by decide +kernel
theorem dJ1_inflate_0e8fd_3 : decode cJ1_inflate_0e8fd 3 = .ok (.iload_n 3, 1) := by decide +kernel
theorem dJ1_inflate_0e8fd_4 : decode cJ1_inflate_0e8fd 4 = .ok (.iload 4, 2) := by decide +kernel
theorem dJ1_inflate_0e8fd_6 : decode cJ1_inflate_0e8fd 6 = .ok (.invokestatic 240, 3) := by decide +kernel
theorem dJ1_inflate_0e8fd_9 : decode cJ1_inflate_0e8fd 9 = .ok (.return_, 1) := by decide +kernel
theorem dJ2_newBytesFor_77867_0 : decode cJ2_newBytesFor_77867 0 = .ok (.iload_n 0, 1) := by decide +kernel
theorem dJ2_newBytesFor_77867_1 : decode cJ2_newBytesFor_77867 1 = .ok (.invokestatic 11, 3) := by decide +kernel
theorem dJ2_newBytesFor_77867_4 : decode cJ2_newBytesFor_77867 4 = .ok (.newarray .byte, 2) := by decide +kernel
theorem dJ2_newBytesFor_77867_6 : decode cJ2_newBytesFor_77867 6 = .ok (.areturn, 1) := by decide +kernel
theorem dJ2_newBytesLength_0f7a4_0 : decode cJ2_newBytesLength_0f7a4 0 = .ok (.iload_n 0, 1) := by decide +kernel
theorem dJ2_newBytesLength_0f7a4_1 : decode cJ2_newBytesLength_0f7a4 1 = .ok (.ifCond .ge 11, 3) := by decide +kernel
theorem dJ2_newBytesLength_0f7a4_4 : decode cJ2_newBytesLength_0f7a4 4 = .ok (.new 17, 3) := by decide +kernel
theorem dJ2_newBytesLength_0f7a4_7 : decode cJ2_newBytesLength_0f7a4 7 = .ok (.dup, 1) := by decide +kernel
theorem dJ2_newBytesLength_0f7a4_8 : decode cJ2_newBytesLength_0f7a4 8 = .ok (.invokespecial 19, 3) := by decide +kernel
theorem dJ2_newBytesLength_0f7a4_11 : decode cJ2_newBytesLength_0f7a4 11 = .ok (.athrow, 1) := by decide +kernel
theorem dJ2_newBytesLength_0f7a4_12 : decode cJ2_newBytesLength_0f7a4 12 = .ok (.iload_n 0, 1) := by decide +kernel
theorem dJ2_newBytesLength_0f7a4_13 : decode cJ2_newBytesLength_0f7a4 13 = .ok (.ldc 20, 2) := by decide +kernel
theorem dJ2_newBytesLength_0f7a4_15 : decode cJ2_newBytesLength_0f7a4 15 = .ok (.if_icmp .lt 40, 3) := by decide +kernel
theorem dJ2_newBytesLength_0f7a4_18 : decode cJ2_newBytesLength_0f7a4 18 = .ok (.new 21, 3) := by decide +kernel
theorem dJ2_newBytesLength_0f7a4_21 : decode cJ2_newBytesLength_0f7a4 21 = .ok (.dup, 1) := by decide +kernel
theorem dJ2_newBytesLength_0f7a4_22 : decode cJ2_newBytesLength_0f7a4 22 = .ok (.new 23, 3) := by decide +kernel
theorem dJ2_newBytesLength_0f7a4_25 : decode cJ2_newBytesLength_0f7a4 25 = .ok (.dup, 1) := by decide +kernel
theorem dJ2_newBytesLength_0f7a4_26 : decode cJ2_newBytesLength_0f7a4 26 = .ok (.invokespecial 25, 3) := by decide +kernel
theorem dJ2_newBytesLength_0f7a4_29 : decode cJ2_newBytesLength_0f7a4 29 = .ok (.ldc 26, 2) := by decide +kernel
theorem dJ2_newBytesLength_0f7a4_31 : decode cJ2_newBytesLength_0f7a4 31 = .ok (.invokevirtual 28, 3) := by decide +kernel
theorem dJ2_newBytesLength_0f7a4_34 : decode cJ2_newBytesLength_0f7a4 34 = .ok (.iload_n 0, 1) := by decide +kernel
theorem dJ2_newBytesLength_0f7a4_35 : decode cJ2_newBytesLength_0f7a4 35 = .ok (.invokevirtual 32, 3) := by decide +kernel
theorem dJ2_newBytesLength_0f7a4_38 : decode cJ2_newBytesLength_0f7a4 38 = .ok (.ldc 35, 2) := by decide +kernel
theorem dJ2_newBytesLength_0f7a4_40 : decode cJ2_newBytesLength_0f7a4 40 = .ok (.invokevirtual 28, 3) := by decide +kernel
theorem dJ2_newBytesLength_0f7a4_43 : decode cJ2_newBytesLength_0f7a4 43 = .ok (.ldc 20, 2) := by decide +kernel
theorem dJ2_newBytesLength_0f7a4_45 : decode cJ2_newBytesLength_0f7a4 45 = .ok (.invokevirtual 32, 3) := by decide +kernel
theorem dJ2_newBytesLength_0f7a4_48 : decode cJ2_newBytesLength_0f7a4 48 = .ok (.invokevirtual 37, 3) := by decide +kernel
theorem dJ2_newBytesLength_0f7a4_51 : decode cJ2_newBytesLength_0f7a4 51 = .ok (.invokespecial 41, 3) := by decide +kernel
theorem dJ2_newBytesLength_0f7a4_54 : decode cJ2_newBytesLength_0f7a4 54 = .ok (.athrow, 1) := by decide +kernel
theorem dJ2_newBytesLength_0f7a4_55 : decode cJ2_newBytesLength_0f7a4 55 = .ok (.iload_n 0, 1) := by decide +kernel
theorem dJ2_newBytesLength_0f7a4_56 : decode cJ2_newBytesLength_0f7a4 56 = .ok (.iconst 1, 1) := by decide +kernel
theorem dJ2_newBytesLength_0f7a4_57 : decode cJ2_newBytesLength_0f7a4 57 = .ok (.ishl, 1) := by decide +kernel
theorem dJ2_newBytesLength_0f7a4_58 : decode cJ2_newBytesLength_0f7a4 58 = .ok (.ireturn, 1) := by decide +kernel
theorem dJ2_putChar_b72d1_0 : decode cJ2_putChar_b72d1 0 = .ok (.getstatic 44, 3) := by decide +kernel
theorem dJ2_putChar_b72d1_3 : decode cJ2_putChar_b72d1 3 = .ok (.ifCond .ne 25, 3) := by decide +kernel
theorem dJ2_putChar_b72d1_6 : decode cJ2_putChar_b72d1 6 = .ok (.iload_n 1, 1) := by decide +kernel
theorem dJ2_putChar_b72d1_7 : decode cJ2_putChar_b72d1 7 = .ok (.ifCond .lt 11, 3) := by decide +kernel
theorem dJ2_putChar_b72d1_10 : decode cJ2_putChar_b72d1 10 = .ok (.iload_n 1, 1) := by decide +kernel
theorem dJ2_putChar_b72d1_11 : decode cJ2_putChar_b72d1 11 = .ok (.aload_n 0, 1) := by decide +kernel
theorem dJ2_putChar_b72d1_12 : decode cJ2_putChar_b72d1 12 = .ok (.invokestatic 48, 3) := by decide +kernel
theorem dJ2_putChar_b72d1_15 : decode cJ2_putChar_b72d1 15 = .ok (.if_icmp .lt 13, 3) := by decide +kernel
theorem dJ2_putChar_b72d1_18 : decode cJ2_putChar_b72d1 18 = .ok (.new 52, 3) := by decide +kernel
theorem dJ2_putChar_b72d1_21 : decode cJ2_putChar_b72d1 21 = .ok (.dup, 1) := by decide +kernel
theorem dJ2_putChar_b72d1_22 : decode cJ2_putChar_b72d1 22 = .ok (.ldc 54, 2) := by decide +kernel
theorem dJ2_putChar_b72d1_24 : decode cJ2_putChar_b72d1 24 = .ok (.invokespecial 56, 3) := by decide +kernel
theorem dJ2_putChar_b72d1_27 : decode cJ2_putChar_b72d1 27 = .ok (.athrow, 1) := by decide +kernel
theorem dJ2_putChar_b72d1_28 : decode cJ2_putChar_b72d1 28 = .ok (.iload_n 1, 1) := by decide +kernel
theorem dJ2_putChar_b72d1_29 : decode cJ2_putChar_b72d1 29 = .ok (.iconst 1, 1) := by decide +kernel
theorem dJ2_putChar_b72d1_30 : decode cJ2_putChar_b72d1 30 = .ok (.ishl, 1) := by decide +kernel
theorem dJ2_putChar_b72d1_31 : decode cJ2_putChar_b72d1 31 = .ok (.istore_n 1, 1) := by decide +kernel
theorem dJ2_putChar_b72d1_32 : decode cJ2_putChar_b72d1 32 = .ok (.aload_n 0, 1) := by decide +kernel
theorem dJ2_putChar_b72d1_33 : decode cJ2_putChar_b72d1 33 = .ok (.iload_n 1, 1) := by decide +kernel
theorem dJ2_putChar_b72d1_34 : decode cJ2_putChar_b72d1 34 = .ok (.iinc 1 1, 3) := by decide +kernel
theorem dJ2_putChar_b72d1_37 : decode cJ2_putChar_b72d1 37 = .ok (.iload_n 2, 1) := by decide +kernel
theorem dJ2_putChar_b72d1_38 : decode cJ2_putChar_b72d1 38 = .ok (.getstatic 59, 3) := by decide +kernel
theorem dJ2_putChar_b72d1_41 : decode cJ2_putChar_b72d1 41 = .ok (.ishr, 1) := by decide +kernel
theorem dJ2_putChar_b72d1_42 : decode cJ2_putChar_b72d1 42 = .ok (.i2b, 1) := by decide +kernel
theorem dJ2_putChar_b72d1_43 : decode cJ2_putChar_b72d1 43 = .ok (.bastore, 1) := by decide +kernel
theorem dJ2_putChar_b72d1_44 : decode cJ2_putChar_b72d1 44 = .ok (.aload_n 0, 1) := by decide +kernel
theorem dJ2_putChar_b72d1_45 : decode cJ2_putChar_b72d1 45 = .ok (.iload_n 1, 1) := by decide +kernel
theorem dJ2_putChar_b72d1_46 : decode cJ2_putChar_b72d1 46 = .ok (.iload_n 2, 1) := by decide +kernel
theorem dJ2_putChar_b72d1_47 : decode cJ2_putChar_b72d1 47 = .ok (.getstatic 63, 3) := by decide +kernel
theorem dJ2_putChar_b72d1_50 : decode cJ2_putChar_b72d1 50 = .ok (.ishr, 1) := by decide +kernel
theorem dJ2_putChar_b72d1_51 : decode cJ2_putChar_b72d1 51 = .ok (.i2b, 1) := by decide +kernel
theorem dJ2_putChar_b72d1_52 : decode cJ2_putChar_b72d1 52 = .ok (.bastore, 1) := by decide +kernel
theorem dJ2_putChar_b72d1_53 : decode cJ2_putChar_b72d1 53 = .ok (.return_, 1) := by decide +kernel
theorem dJ2_getChar_3b067_0 : decode cJ2_getChar_3b067 0 = .ok (.getstatic 44, 3) := by decide +kernel
theorem dJ2_getChar_3b067_3 : decode cJ2_getChar_3b067 3 = .ok (.ifCond .ne 25, 3) := by decide +kernel
theorem dJ2_getChar_3b067_6 : decode cJ2_getChar_3b067 6 = .ok (.iload_n 1, 1) := by decide +kernel
theorem dJ2_getChar_3b067_7 : decode cJ2_getChar_3b067 7 = .ok (.ifCond .lt 11, 3) := by decide +kernel
theorem dJ2_getChar_3b067_10 : decode cJ2_getChar_3b067 10 = .ok (.iload_n 1, 1) := by decide +kernel
theorem dJ2_getChar_3b067_11 : decode cJ2_getChar_3b067 11 = .ok (.aload_n 0, 1) := by decide +kernel
theorem dJ2_getChar_3b067_12 : decode cJ2_getChar_3b067 12 = .ok (.invokestatic 48, 3) := by decide +kernel
theorem dJ2_getChar_3b067_15 : decode cJ2_getChar_3b067 15 = .ok (.if_icmp .lt 13, 3) := by decide +kernel
theorem dJ2_getChar_3b067_18 : decode cJ2_getChar_3b067 18 = .ok (.new 52, 3) := by decide +kernel
theorem dJ2_getChar_3b067_21 : decode cJ2_getChar_3b067 21 = .ok (.dup, 1) := by decide +kernel
theorem dJ2_getChar_3b067_22 : decode cJ2_getChar_3b067 22 = .ok (.ldc 54, 2) := by decide +kernel
theorem dJ2_getChar_3b067_24 : decode cJ2_getChar_3b067 24 = .ok (.invokespecial 56, 3) := by decide +kernel
theorem dJ2_getChar_3b067_27 : decode cJ2_getChar_3b067 27 = .ok (.athrow, 1) := by decide +kernel
theorem dJ2_getChar_3b067_28 : decode cJ2_getChar_3b067 28 = .ok (.iload_n 1, 1) := by decide +kernel
theorem dJ2_getChar_3b067_29 : decode cJ2_getChar_3b067 29 = .ok (.iconst 1, 1) := by decide +kernel
theorem dJ2_getChar_3b067_30 : decode cJ2_getChar_3b067 30 = .ok (.ishl, 1) := by decide +kernel
theorem dJ2_getChar_3b067_31 : decode cJ2_getChar_3b067 31 = .ok (.istore_n 1, 1) := by decide +kernel
theorem dJ2_getChar_3b067_32 : decode cJ2_getChar_3b067 32 = .ok (.aload_n 0, 1) := by decide +kernel
theorem dJ2_getChar_3b067_33 : decode cJ2_getChar_3b067 33 = .ok (.iload_n 1, 1) := by decide +kernel
theorem dJ2_getChar_3b067_34 : decode cJ2_getChar_3b067 34 = .ok (.iinc 1 1, 3) := by decide +kernel
theorem dJ2_getChar_3b067_37 : decode cJ2_getChar_3b067 37 = .ok (.baload, 1) := by decide +kernel
theorem dJ2_getChar_3b067_38 : decode cJ2_getChar_3b067 38 = .ok (.sipush 255, 3) := by decide +kernel
theorem dJ2_getChar_3b067_41 : decode cJ2_getChar_3b067 41 = .ok (.iand, 1) := by decide +kernel
theorem dJ2_getChar_3b067_42 : decode cJ2_getChar_3b067 42 = .ok (.getstatic 59, 3) := by decide +kernel
theorem dJ2_getChar_3b067_45 : decode cJ2_getChar_3b067 45 = .ok (.ishl, 1) := by decide +kernel
theorem dJ2_getChar_3b067_46 : decode cJ2_getChar_3b067 46 = .ok (.aload_n 0, 1) := by decide +kernel
theorem dJ2_getChar_3b067_47 : decode cJ2_getChar_3b067 47 = .ok (.iload_n 1, 1) := by decide +kernel
theorem dJ2_getChar_3b067_48 : decode cJ2_getChar_3b067 48 = .ok (.baload, 1) := by decide +kernel
theorem dJ2_getChar_3b067_49 : decode cJ2_getChar_3b067 49 = .ok (.sipush 255, 3) := by decide +kernel
theorem dJ2_getChar_3b067_52 : decode cJ2_getChar_3b067 52 = .ok (.iand, 1) := by decide +kernel
theorem dJ2_getChar_3b067_53 : decode cJ2_getChar_3b067 53 = .ok (.getstatic 63, 3) := by decide +kernel
theorem dJ2_getChar_3b067_56 : decode cJ2_getChar_3b067 56 = .ok (.ishl, 1) := by decide +kernel
theorem dJ2_getChar_3b067_57 : decode cJ2_getChar_3b067 57 = .ok (.ior, 1) := by decide +kernel
theorem dJ2_getChar_3b067_58 : decode cJ2_getChar_3b067 58 = .ok (.i2c, 1) := by decide +kernel
theorem dJ2_getChar_3b067_59 : decode cJ2_getChar_3b067 59 = .ok (.ireturn, 1) := by decide +kernel
theorem dJ2_length_9d52b_0 : decode cJ2_length_9d52b 0 = .ok (.aload_n 0, 1) := by decide +kernel
theorem dJ2_length_9d52b_1 : decode cJ2_length_9d52b 1 = .ok (.arraylength, 1) := by decide +kernel
theorem dJ2_length_9d52b_2 : decode cJ2_length_9d52b 2 = .ok (.iconst 1, 1) := by decide +kernel
theorem dJ2_length_9d52b_3 : decode cJ2_length_9d52b 3 = .ok (.ishr, 1) := by decide +kernel
theorem dJ2_length_9d52b_4 : decode cJ2_length_9d52b 4 = .ok (.ireturn, 1) := by decide +kernel
theorem dJ2_coderFromArrayLen_85cad_0 : decode cJ2_coderFromArrayLen_85cad 0 = .ok (.iload_n 1, 1) := by decide +kernel
theorem dJ2_coderFromArrayLen_85cad_1 : decode cJ2_coderFromArrayLen_85cad 1 = .ok (.aload_n 0, 1) := by decide +kernel
theorem dJ2_coderFromArrayLen_85cad_2 : decode cJ2_coderFromArrayLen_85cad 2 = .ok (.arraylength, 1) := by decide +kernel
theorem dJ2_coderFromArrayLen_85cad_3 : decode cJ2_coderFromArrayLen_85cad 3 = .ok (.isub, 1) := by decide +kernel
theorem dJ2_coderFromArrayLen_85cad_4 : decode cJ2_coderFromArrayLen_85cad 4 = .ok (.bipush 31, 2) := by decide +kernel
theorem dJ2_coderFromArrayLen_85cad_6 : decode cJ2_coderFromArrayLen_85cad 6 = .ok (.iushr, 1) := by decide +kernel
theorem dJ2_coderFromArrayLen_85cad_7 : decode cJ2_coderFromArrayLen_85cad 7 = .ok (.i2b, 1) := by decide +kernel
theorem dJ2_coderFromArrayLen_85cad_8 : decode cJ2_coderFromArrayLen_85cad 8 = .ok (.ireturn, 1) := by decide +kernel
theorem dJ2_compress_39247_0 : decode cJ2_compress_39247 0 = .ok (.iload_n 2, 1) := by decide +kernel
theorem dJ2_compress_39247_1 : decode cJ2_compress_39247 1 = .ok (.newarray .byte, 2) := by decide +kernel
theorem dJ2_compress_39247_3 : decode cJ2_compress_39247 3 = .ok (.astore_n 3, 1) := by decide +kernel
theorem dJ2_compress_39247_4 : decode cJ2_compress_39247 4 = .ok (.aload_n 0, 1) := by decide +kernel
theorem dJ2_compress_39247_5 : decode cJ2_compress_39247 5 = .ok (.iload_n 1, 1) := by decide +kernel
theorem dJ2_compress_39247_6 : decode cJ2_compress_39247 6 = .ok (.aload_n 3, 1) := by decide +kernel
theorem dJ2_compress_39247_7 : decode cJ2_compress_39247 7 = .ok (.iconst 0, 1) := by decide +kernel
theorem dJ2_compress_39247_8 : decode cJ2_compress_39247 8 = .ok (.iload_n 2, 1) := by decide +kernel
theorem dJ2_compress_39247_9 : decode cJ2_compress_39247 9 = .ok (.invokestatic 123, 3) := by decide +kernel
theorem dJ2_compress_39247_12 : decode cJ2_compress_39247 12 = .ok (.istore 4, 2) := by decide +kernel
theorem dJ2_compress_39247_14 : decode cJ2_compress_39247 14 = .ok (.iload 4, 2) := by decide +kernel
theorem dJ2_compress_39247_16 : decode cJ2_compress_39247 16 = .ok (.iload_n 2, 1) := by decide +kernel
theorem dJ2_compress_39247_17 : decode cJ2_compress_39247 17 = .ok (.if_icmp .eq 47, 3) := by decide +kernel
theorem dJ2_compress_39247_20 : decode cJ2_compress_39247 20 = .ok (.aload_n 0, 1) := by decide +kernel
theorem dJ2_compress_39247_21 : decode cJ2_compress_39247 21 = .ok (.iload_n 1, 1) := by decide +kernel
theorem dJ2_compress_39247_22 : decode cJ2_compress_39247 22 = .ok (.iconst 1, 1) := by decide +kernel
theorem dJ2_compress_39247_23 : decode cJ2_compress_39247 23 = .ok (.ishl, 1) := by decide +kernel
theorem dJ2_compress_39247_24 : decode cJ2_compress_39247 24 = .ok (.iload_n 1, 1) := by decide +kernel
theorem dJ2_compress_39247_25 : decode cJ2_compress_39247 25 = .ok (.iload_n 2, 1) := by decide +kernel
theorem dJ2_compress_39247_26 : decode cJ2_compress_39247 26 = .ok (.iadd, 1) := by decide +kernel
theorem dJ2_compress_39247_27 : decode cJ2_compress_39247 27 = .ok (.invokestatic 11, 3) := by decide +kernel
theorem dJ2_compress_39247_30 : decode cJ2_compress_39247 30 = .ok (.invokestatic 126, 3) := by decide +kernel
theorem dJ2_compress_39247_33 : decode cJ2_compress_39247 33 = .ok (.astore 5, 2) := by decide +kernel
theorem dJ2_compress_39247_35 : decode cJ2_compress_39247 35 = .ok (.aload 5, 2) := by decide +kernel
theorem dJ2_compress_39247_37 : decode cJ2_compress_39247 37 = .ok (.iload 4, 2) := by decide +kernel
theorem dJ2_compress_39247_39 : decode cJ2_compress_39247 39 = .ok (.invokestatic 71, 3) := by decide +kernel
theorem dJ2_compress_39247_42 : decode cJ2_compress_39247 42 = .ok (.sipush 255, 3) := by decide +kernel
theorem dJ2_compress_39247_45 : decode cJ2_compress_39247 45 = .ok (.if_icmp .gt 16, 3) := by decide +kernel
theorem dJ2_compress_39247_48 : decode cJ2_compress_39247 48 = .ok (.aload 5, 2) := by decide +kernel
theorem dJ2_compress_39247_50 : decode cJ2_compress_39247 50 = .ok (.iconst 0, 1) := by decide +kernel
theorem dJ2_compress_39247_51 : decode cJ2_compress_39247 51 = .ok (.aload_n 3, 1) := by decide +kernel
theorem dJ2_compress_39247_52 : decode cJ2_compress_39247 52 = .ok (.iconst 0, 1) := by decide +kernel
theorem dJ2_compress_39247_53 : decode cJ2_compress_39247 53 = .ok (.iload_n 2, 1) := by decide +kernel
theorem dJ2_compress_39247_54 : decode cJ2_compress_39247 54 = .ok (.invokestatic 123, 3) := by decide +kernel
theorem dJ2_compress_39247_57 : decode cJ2_compress_39247 57 = .ok (.iload_n 2, 1) := by decide +kernel
theorem dJ2_compress_39247_58 : decode cJ2_compress_39247 58 = .ok (.if_icmp .eq 6, 3) := by decide +kernel
theorem dJ2_compress_39247_61 : decode cJ2_compress_39247 61 = .ok (.aload 5, 2) := by decide +kernel
theorem dJ2_compress_39247_63 : decode cJ2_compress_39247 63 = .ok (.areturn, 1) := by decide +kernel
theorem dJ2_compress_39247_64 : decode cJ2_compress_39247 64 = .ok (.aload_n 3, 1) := by decide +kernel
theorem dJ2_compress_39247_65 : decode cJ2_compress_39247 65 = .ok (.areturn, 1) := by decide +kernel
theorem dJ2_compress_5af95_0 : decode cJ2_compress_5af95 0 = .ok (.iload_n 1, 1) := by decide +kernel
theorem dJ2_compress_5af95_1 : decode cJ2_compress_5af95 1 = .ok (.iload 4, 2) := by decide +kernel
theorem dJ2_compress_5af95_3 : decode cJ2_compress_5af95 3 = .ok (.aload_n 0, 1) := by decide +kernel
theorem dJ2_compress_5af95_4 : decode cJ2_compress_5af95 4 = .ok (.invokestatic 173, 3) := by decide +kernel
theorem dJ2_compress_5af95_7 : decode cJ2_compress_5af95 7 = .ok (.iconst 0, 1) := by decide +kernel
theorem dJ2_compress_5af95_8 : decode cJ2_compress_5af95 8 = .ok (.istore 5, 2) := by decide +kernel
theorem dJ2_compress_5af95_10 : decode cJ2_compress_5af95 10 = .ok (.iload 5, 2) := by decide +kernel
theorem dJ2_compress_5af95_12 : decode cJ2_compress_5af95 12 = .ok (.iload 4, 2) := by decide +kernel
theorem dJ2_compress_5af95_14 : decode cJ2_compress_5af95 14 = .ok (.if_icmp .ge 39, 3) := by decide +kernel
theorem dJ2_compress_5af95_17 : decode cJ2_compress_5af95 17 = .ok (.aload_n 0, 1) := by decide +kernel
theorem dJ2_compress_5af95_18 : decode cJ2_compress_5af95 18 = .ok (.iload_n 1, 1) := by decide +kernel
theorem dJ2_compress_5af95_19 : decode cJ2_compress_5af95 19 = .ok (.invokestatic 71, 3) := by decide +kernel
theorem dJ2_compress_5af95_22 : decode cJ2_compress_5af95 22 = .ok (.istore 6, 2) := by decide +kernel
theorem dJ2_compress_5af95_24 : decode cJ2_compress_5af95 24 = .ok (.iload 6, 2) := by decide +kernel
theorem dJ2_compress_5af95_26 : decode cJ2_compress_5af95 26 = .ok (.sipush 255, 3) := by decide +kernel
theorem dJ2_compress_5af95_29 : decode cJ2_compress_5af95 29 = .ok (.if_icmp .le 6, 3) := by decide +kernel
theorem dJ2_compress_5af95_32 : decode cJ2_compress_5af95 32 = .ok (.iload 5, 2) := by decide +kernel
theorem dJ2_compress_5af95_34 : decode cJ2_compress_5af95 34 = .ok (.ireturn, 1) := by decide +kernel
theorem dJ2_compress_5af95_35 : decode cJ2_compress_5af95 35 = .ok (.aload_n 2, 1) := by decide +kernel
theorem dJ2_compress_5af95_36 : decode cJ2_compress_5af95 36 = .ok (.iload_n 3, 1) := by decide +kernel
theorem dJ2_compress_5af95_37 : decode cJ2_compress_5af95 37 = .ok (.iload 6, 2) := by decide +kernel
theorem dJ2_compress_5af95_39 : decode cJ2_compress_5af95 39 = .ok (.i2b, 1) := by decide +kernel
theorem dJ2_compress_5af95_40 : decode cJ2_compress_5af95 40 = .ok (.bastore, 1) := by decide +kernel
theorem dJ2_compress_5af95_41 : decode cJ2_compress_5af95 41 = .ok (.iinc 1 1, 3) := by decide +kernel
theorem dJ2_compress_5af95_44 : decode cJ2_compress_5af95 44 = .ok (.iinc 3 1, 3) := by decide +kernel
theorem dJ2_compress_5af95_47 : decode cJ2_compress_5af95 47 = .ok (.iinc 5 1, 3) := by decide +kernel
theorem dJ2_compress_5af95_50 : decode cJ2_compress_5af95 50 = .ok (.goto (-40), 3) := by decide +kernel
theorem dJ2_compress_5af95_53 : decode cJ2_compress_5af95 53 = .ok (.iload 4, 2) := by decide +kernel
theorem dJ2_compress_5af95_55 : decode cJ2_compress_5af95 55 = .ok (.ireturn, 1) := by decide +kernel
theorem dJ2_fillNull_b72d1_0 : decode cJ2_fillNull_b72d1 0 = .ok (.aload_n 0, 1) := by decide +kernel
theorem dJ2_fillNull_b72d1_1 : decode cJ2_fillNull_b72d1 1 = .ok (.iload_n 1, 1) := by decide +kernel
theorem dJ2_fillNull_b72d1_2 : decode cJ2_fillNull_b72d1 2 = .ok (.iconst 1, 1) := by decide +kernel
theorem dJ2_fillNull_b72d1_3 : decode cJ2_fillNull_b72d1 3 = .ok (.ishl, 1) := by decide +kernel
theorem dJ2_fillNull_b72d1_4 : decode cJ2_fillNull_b72d1 4 = .ok (.iload_n 2, 1) := by decide +kernel
theorem dJ2_fillNull_b72d1_5 : decode cJ2_fillNull_b72d1 5 = .ok (.iconst 1, 1) := by decide +kernel
theorem dJ2_fillNull_b72d1_6 : decode cJ2_fillNull_b72d1 6 = .ok (.ishl, 1) := by decide +kernel
theorem dJ2_fillNull_b72d1_7 : decode cJ2_fillNull_b72d1 7 = .ok (.iconst 0, 1) := by decide +kernel
theorem dJ2_fillNull_b72d1_8 : decode cJ2_fillNull_b72d1 8 = .ok (.invokestatic 380, 3) := by decide +kernel
theorem dJ2_fillNull_b72d1_11 : decode cJ2_fillNull_b72d1 11 = .ok (.return_, 1) := by decide +kernel
theorem dJ2_putCharSB_b72d1_0 : decode cJ2_putCharSB_b72d1 0 = .ok (.iload_n 1, 1) := by decide +kernel
theorem dJ2_putCharSB_b72d1_1 : decode cJ2_putCharSB_b72d1 1 = .ok (.aload_n 0, 1) := by decide +kernel
theorem dJ2_putCharSB_b72d1_2 : decode cJ2_putCharSB_b72d1 2 = .ok (.invokestatic 67, 3) := by decide +kernel
theorem dJ2_putCharSB_b72d1_5 : decode cJ2_putCharSB_b72d1 5 = .ok (.aload_n 0, 1) := by decide +kernel
theorem dJ2_putCharSB_b72d1_6 : decode cJ2_putCharSB_b72d1 6 = .ok (.iload_n 1, 1) := by decide +kernel
theorem dJ2_putCharSB_b72d1_7 : decode cJ2_putCharSB_b72d1 7 = .ok (.iload_n 2, 1) := by decide +kernel
theorem dJ2_putCharSB_b72d1_8 : decode cJ2_putCharSB_b72d1 8 = .ok (.invokestatic 111, 3) := by decide +kernel
theorem dJ2_putCharSB_b72d1_11 : decode cJ2_putCharSB_b72d1 11 = .ok (.return_, 1) := by decide +kernel
theorem dJ2_getChars_46870_0 : decode cJ2_getChars_46870 0 = .ok (.iload_n 1, 1) := by decide +kernel
theorem dJ2_getChars_46870_1 : decode cJ2_getChars_46870 1 = .ok (.iload_n 2, 1) := by decide +kernel
theorem dJ2_getChars_46870_2 : decode cJ2_getChars_46870 2 = .ok (.aload_n 3, 1) := by decide +kernel
theorem dJ2_getChars_46870_3 : decode cJ2_getChars_46870 3 = .ok (.invokestatic 96, 3) := by decide +kernel
theorem dJ2_getChars_46870_6 : decode cJ2_getChars_46870 6 = .ok (.iload_n 0, 1) := by decide +kernel
theorem dJ2_getChars_46870_7 : decode cJ2_getChars_46870 7 = .ok (.iload_n 2, 1) := by decide +kernel
theorem dJ2_getChars_46870_8 : decode cJ2_getChars_46870 8 = .ok (.aload_n 3, 1) := by decide +kernel
theorem dJ2_getChars_46870_9 : decode cJ2_getChars_46870 9 = .ok (.invokestatic 393, 3) := by decide +kernel
theorem dJ2_getChars_46870_12 : decode cJ2_getChars_46870 12 = .ok (.istore 4, 2) := by decide +kernel
theorem dJ2_getChars_46870_14 : decode cJ2_getChars_46870 14 = .ok (.getstatic 44, 3) := by decide +kernel
theorem dJ2_getChars_46870_17 : decode cJ2_getChars_46870 17 = .ok (.ifCond .ne 17, 3) := by decide +kernel
theorem dJ2_getChars_46870_20 : decode cJ2_getChars_46870 20 = .ok (.iload_n 1, 1) := by decide +kernel
theorem dJ2_getChars_46870_21 : decode cJ2_getChars_46870 21 = .ok (.iload 4, 2) := by decide +kernel
theorem dJ2_getChars_46870_23 : decode cJ2_getChars_46870 23 = .ok (.if_icmp .eq 11, 3) := by decide +kernel
theorem dJ2_getChars_46870_26 : decode cJ2_getChars_46870 26 = .ok (.new 52, 3) := by decide +kernel
theorem dJ2_getChars_46870_29 : decode cJ2_getChars_46870 29 = .ok (.dup, 1) := by decide +kernel
theorem dJ2_getChars_46870_30 : decode cJ2_getChars_46870 30 = .ok (.invokespecial 66, 3) := by decide +kernel
theorem dJ2_getChars_46870_33 : decode cJ2_getChars_46870 33 = .ok (.athrow, 1) := by decide +kernel
theorem dJ2_getChars_46870_34 : decode cJ2_getChars_46870 34 = .ok (.iload 4, 2) := by decide +kernel
theorem dJ2_getChars_46870_36 : decode cJ2_getChars_46870 36 = .ok (.ireturn, 1) := by decide +kernel
theorem dJ2_putCharsAt_cd4e5_0 : decode cJ2_putCharsAt_cd4e5 0 = .ok (.iload_n 1, 1) := by decide +kernel
theorem dJ2_putCharsAt_cd4e5_1 : decode cJ2_putCharsAt_cd4e5 1 = .ok (.iconst 4, 1) := by decide +kernel
theorem dJ2_putCharsAt_cd4e5_2 : decode cJ2_putCharsAt_cd4e5 2 = .ok (.iadd, 1) := by decide +kernel
theorem dJ2_putCharsAt_cd4e5_3 : decode cJ2_putCharsAt_cd4e5 3 = .ok (.istore 6, 2) := by decide +kernel
theorem dJ2_putCharsAt_cd4e5_5 : decode cJ2_putCharsAt_cd4e5 5 = .ok (.iload_n 1, 1) := by decide +kernel
theorem dJ2_putCharsAt_cd4e5_6 : decode cJ2_putCharsAt_cd4e5 6 = .ok (.iload 6, 2) := by decide +kernel
theorem dJ2_putCharsAt_cd4e5_8 : decode cJ2_putCharsAt_cd4e5 8 = .ok (.aload_n 0, 1) := by decide +kernel
theorem dJ2_putCharsAt_cd4e5_9 : decode cJ2_putCharsAt_cd4e5 9 = .ok (.invokestatic 96, 3) := by decide +kernel
theorem dJ2_putCharsAt_cd4e5_12 : decode cJ2_putCharsAt_cd4e5 12 = .ok (.aload_n 0, 1) := by decide +kernel
theorem dJ2_putCharsAt_cd4e5_13 : decode cJ2_putCharsAt_cd4e5 13 = .ok (.iload_n 1, 1) := by decide +kernel
theorem dJ2_putCharsAt_cd4e5_14 : decode cJ2_putCharsAt_cd4e5 14 = .ok (.iinc 1 1, 3) := by decide +kernel
theorem dJ2_putCharsAt_cd4e5_17 : decode cJ2_putCharsAt_cd4e5 17 = .ok (.iload_n 2, 1) := by decide +kernel
theorem dJ2_putCharsAt_cd4e5_18 : decode cJ2_putCharsAt_cd4e5 18 = .ok (.invokestatic 111, 3) := by decide +kernel
theorem dJ2_putCharsAt_cd4e5_21 : decode cJ2_putCharsAt_cd4e5 21 = .ok (.aload_n 0, 1) := by decide +kernel
theorem dJ2_putCharsAt_cd4e5_22 : decode cJ2_putCharsAt_cd4e5 22 = .ok (.iload_n 1, 1) := by decide +kernel
theorem dJ2_putCharsAt_cd4e5_23 : decode cJ2_putCharsAt_cd4e5 23 = .ok (.iinc 1 1, 3) := by decide +kernel
theorem dJ2_putCharsAt_cd4e5_26 : decode cJ2_putCharsAt_cd4e5 26 = .ok (.iload_n 3, 1) := by decide +kernel
theorem dJ2_putCharsAt_cd4e5_27 : decode cJ2_putCharsAt_cd4e5 27 = .ok (.invokestatic 111, 3) := by decide +kernel
theorem dJ2_putCharsAt_cd4e5_30 : decode cJ2_putCharsAt_cd4e5 30 = .ok (.aload_n 0, 1) := by decide +kernel
theorem dJ2_putCharsAt_cd4e5_31 : decode cJ2_putCharsAt_cd4e5 31 = .ok (.iload_n 1, 1) := by decide +kernel
theorem dJ2_putCharsAt_cd4e5_32 : decode cJ2_putCharsAt_cd4e5 32 = .ok (.iinc 1 1, 3) := by decide +kernel
theorem dJ2_putCharsAt_cd4e5_35 : decode cJ2_putCharsAt_cd4e5 35 = .ok (.iload 4, 2) := by decide +kernel
theorem dJ2_putCharsAt_cd4e5_37 : decode cJ2_putCharsAt_cd4e5 37 = .ok (.invokestatic 111, 3) := by decide +kernel
theorem dJ2_putCharsAt_cd4e5_40 : decode cJ2_putCharsAt_cd4e5 40 = .ok (.aload_n 0, 1) := by decide +kernel
theorem dJ2_putCharsAt_cd4e5_41 : decode cJ2_putCharsAt_cd4e5 41 = .ok (.iload_n 1, 1) := by decide +kernel
theorem dJ2_putCharsAt_cd4e5_42 : decode cJ2_putCharsAt_cd4e5 42 = .ok (.iinc 1 1, 3) := by decide +kernel
theorem dJ2_putCharsAt_cd4e5_45 : decode cJ2_putCharsAt_cd4e5 45 = .ok (.iload 5, 2) := by decide +kernel
theorem dJ2_putCharsAt_cd4e5_47 : decode cJ2_putCharsAt_cd4e5 47 = .ok (.invokestatic 111, 3) := by decide +kernel
theorem dJ2_putCharsAt_cd4e5_50 : decode cJ2_putCharsAt_cd4e5 50 = .ok (.getstatic 44, 3) := by decide +kernel
theorem dJ2_putCharsAt_cd4e5_53 : decode cJ2_putCharsAt_cd4e5 53 = .ok (.ifCond .ne 17, 3) := by decide +kernel
theorem dJ2_putCharsAt_cd4e5_56 : decode cJ2_putCharsAt_cd4e5 56 = .ok (.iload_n 1, 1) := by decide +kernel
theorem dJ2_putCharsAt_cd4e5_57 : decode cJ2_putCharsAt_cd4e5 57 = .ok (.iload 6, 2) := by decide +kernel
theorem dJ2_putCharsAt_cd4e5_59 : decode cJ2_putCharsAt_cd4e5 59 = .ok (.if_icmp .eq 11, 3) := by decide +kernel
theorem dJ2_putCharsAt_cd4e5_62 : decode cJ2_putCharsAt_cd4e5 62 = .ok (.new 52, 3) := by decide +kernel
theorem dJ2_putCharsAt_cd4e5_65 : decode cJ2_putCharsAt_cd4e5 65 = .ok (.dup, 1) := by decide +kernel
theorem dJ2_putCharsAt_cd4e5_66 : decode cJ2_putCharsAt_cd4e5 66 = .ok (.invokespecial 66, 3) := by decide +kernel
theorem dJ2_putCharsAt_cd4e5_69 : decode cJ2_putCharsAt_cd4e5 69 = .ok (.athrow, 1) := by decide +kernel
theorem dJ2_putCharsAt_cd4e5_70 : decode cJ2_putCharsAt_cd4e5 70 = .ok (.iload 6, 2) := by decide +kernel
theorem dJ2_putCharsAt_cd4e5_72 : decode cJ2_putCharsAt_cd4e5 72 = .ok (.ireturn, 1) := by decide +kernel
theorem dJ2_charAt_3b067_0 : decode cJ2_charAt_3b067 0 = .ok (.iload_n 1, 1) := by decide +kernel
theorem dJ2_charAt_3b067_1 : decode cJ2_charAt_3b067 1 = .ok (.aload_n 0, 1) := by decide +kernel
theorem dJ2_charAt_3b067_2 : decode cJ2_charAt_3b067 2 = .ok (.invokestatic 67, 3) := by decide +kernel
theorem dJ2_charAt_3b067_5 : decode cJ2_charAt_3b067 5 = .ok (.aload_n 0, 1) := by decide +kernel
theorem dJ2_charAt_3b067_6 : decode cJ2_charAt_3b067 6 = .ok (.iload_n 1, 1) := by decide +kernel
theorem dJ2_charAt_3b067_7 : decode cJ2_charAt_3b067 7 = .ok (.invokestatic 71, 3) := by decide +kernel
theorem dJ2_charAt_3b067_10 : decode cJ2_charAt_3b067 10 = .ok (.ireturn, 1) := by decide +kernel
theorem dJ2_inflate_0e8fd_0 : decode cJ2_inflate_0e8fd 0 = .ok (.iload_n 3, 1) := by decide +kernel
theorem dJ2_inflate_0e8fd_1 : decode cJ2_inflate_0e8fd 1 = .ok (.iload 4, 2) := by decide +kernel
theorem dJ2_inflate_0e8fd_3 : decode cJ2_inflate_0e8fd 3 = .ok (.aload_n 2, 1) := by decide +kernel
theorem dJ2_inflate_0e8fd_4 : decode cJ2_inflate_0e8fd 4 = .ok (.invokestatic 173, 3) := by decide +kernel
theorem dJ2_inflate_0e8fd_7 : decode cJ2_inflate_0e8fd 7 = .ok (.iconst 0, 1) := by decide +kernel
theorem dJ2_inflate_0e8fd_8 : decode cJ2_inflate_0e8fd 8 = .ok (.istore 5, 2) := by decide +kernel
theorem dJ2_inflate_0e8fd_10 : decode cJ2_inflate_0e8fd 10 = .ok (.iload 5, 2) := by decide +kernel
theorem dJ2_inflate_0e8fd_12 : decode cJ2_inflate_0e8fd 12 = .ok (.iload 4, 2) := by decide +kernel
theorem dJ2_inflate_0e8fd_14 : decode cJ2_inflate_0e8fd 14 = .ok (.if_icmp .ge 27, 3) := by decide +kernel
theorem dJ2_inflate_0e8fd_17 : decode cJ2_inflate_0e8fd 17 = .ok (.aload_n 2, 1) := by decide +kernel
theorem dJ2_inflate_0e8fd_18 : decode cJ2_inflate_0e8fd 18 = .ok (.iload_n 3, 1) := by decide +kernel
theorem dJ2_inflate_0e8fd_19 : decode cJ2_inflate_0e8fd 19 = .ok (.iinc 3 1, 3) := by decide +kernel
theorem dJ2_inflate_0e8fd_22 : decode cJ2_inflate_0e8fd 22 = .ok (.aload_n 0, 1) := by decide +kernel
theorem dJ2_inflate_0e8fd_23 : decode cJ2_inflate_0e8fd 23 = .ok (.iload_n 1, 1) := by decide +kernel
theorem dJ2_inflate_0e8fd_24 : decode cJ2_inflate_0e8fd 24 = .ok (.iinc 1 1, 3) := by decide +kernel
theorem dJ2_inflate_0e8fd_27 : decode cJ2_inflate_0e8fd 27 = .ok (.baload, 1) := by decide +kernel
theorem dJ2_inflate_0e8fd_28 : decode cJ2_inflate_0e8fd 28 = .ok (.sipush 255, 3) := by decide +kernel
theorem dJ2_inflate_0e8fd_31 : decode cJ2_inflate_0e8fd 31 = .ok (.iand, 1) := by decide +kernel
theorem dJ2_inflate_0e8fd_32 : decode cJ2_inflate_0e8fd 32 = .ok (.invokestatic 111, 3) := by decide +kernel
theorem dJ2_inflate_0e8fd_35 : decode cJ2_inflate_0e8fd 35 = .ok (.iinc 5 1, 3) := by decide +kernel
theorem dJ2_inflate_0e8fd_38 : decode cJ2_inflate_0e8fd 38 = .ok (.goto (-28), 3) := by decide +kernel
theorem dJ2_inflate_0e8fd_41 : decode cJ2_inflate_0e8fd 41 = .ok (.return_, 1) := by decide +kernel
theorem dJ2_getChars_ba4f3_0 : decode cJ2_getChars_ba4f3 0 = .ok (.iload_n 1, 1) := by decide +kernel
theorem dJ2_getChars_ba4f3_1 : decode cJ2_getChars_ba4f3 1 = .ok (.istore 5, 2) := by decide +kernel
theorem dJ2_getChars_ba4f3_3 : decode cJ2_getChars_ba4f3 3 = .ok (.iload_n 0, 1) := by decide +kernel
theorem dJ2_getChars_ba4f3_4 : decode cJ2_getChars_ba4f3 4 = .ok (.ifCond .ge 7, 3) := by decide +kernel
theorem dJ2_getChars_ba4f3_7 : decode cJ2_getChars_ba4f3 7 = .ok (.iconst 1, 1) := by decide +kernel
theorem dJ2_getChars_ba4f3_8 : decode cJ2_getChars_ba4f3 8 = .ok (.goto 4, 3) := by decide +kernel
theorem dJ2_getChars_ba4f3_11 : decode cJ2_getChars_ba4f3 11 = .ok (.iconst 0, 1) := by decide +kernel
theorem dJ2_getChars_ba4f3_12 : decode cJ2_getChars_ba4f3 12 = .ok (.istore 6, 2) := by decide +kernel
theorem dJ2_getChars_ba4f3_14 : decode cJ2_getChars_ba4f3 14 = .ok (.iload 6, 2) := by decide +kernel
theorem dJ2_getChars_ba4f3_16 : decode cJ2_getChars_ba4f3 16 = .ok (.ifCond .ne 6, 3) := by decide +kernel
theorem dJ2_getChars_ba4f3_19 : decode cJ2_getChars_ba4f3 19 = .ok (.iload_n 0, 1) := by decide +kernel
theorem dJ2_getChars_ba4f3_20 : decode cJ2_getChars_ba4f3 20 = .ok (.ineg, 1) := by decide +kernel
theorem dJ2_getChars_ba4f3_21 : decode cJ2_getChars_ba4f3 21 = .ok (.istore_n 0, 1) := by decide +kernel
theorem dJ2_getChars_ba4f3_22 : decode cJ2_getChars_ba4f3 22 = .ok (.iload_n 0, 1) := by decide +kernel
theorem dJ2_getChars_ba4f3_23 : decode cJ2_getChars_ba4f3 23 = .ok (.bipush (-100), 2) := by decide +kernel
theorem dJ2_getChars_ba4f3_25 : decode cJ2_getChars_ba4f3 25 = .ok (.if_icmp .gt 51, 3) := by decide +kernel
theorem dJ2_getChars_ba4f3_28 : decode cJ2_getChars_ba4f3 28 = .ok (.iload_n 0, 1) := by decide +kernel
theorem dJ2_getChars_ba4f3_29 : decode cJ2_getChars_ba4f3 29 = .ok (.bipush 100, 2) := by decide +kernel
theorem dJ2_getChars_ba4f3_31 : decode cJ2_getChars_ba4f3 31 = .ok (.idiv, 1) := by decide +kernel
theorem dJ2_getChars_ba4f3_32 : decode cJ2_getChars_ba4f3 32 = .ok (.istore_n 3, 1) := by decide +kernel
theorem dJ2_getChars_ba4f3_33 : decode cJ2_getChars_ba4f3 33 = .ok (.iload_n 3, 1) := by decide +kernel
theorem dJ2_getChars_ba4f3_34 : decode cJ2_getChars_ba4f3 34 = .ok (.bipush 100, 2) := by decide +kernel
theorem dJ2_getChars_ba4f3_36 : decode cJ2_getChars_ba4f3 36 = .ok (.imul, 1) := by decide +kernel
theorem dJ2_getChars_ba4f3_37 : decode cJ2_getChars_ba4f3 37 = .ok (.iload_n 0, 1) := by decide +kernel
theorem dJ2_getChars_ba4f3_38 : decode cJ2_getChars_ba4f3 38 = .ok (.isub, 1) := by decide +kernel
theorem dJ2_getChars_ba4f3_39 : decode cJ2_getChars_ba4f3 39 = .ok (.istore 4, 2) := by decide +kernel
theorem dJ2_getChars_ba4f3_41 : decode cJ2_getChars_ba4f3 41 = .ok (.iload_n 3, 1) := by decide +kernel
theorem dJ2_getChars_ba4f3_42 : decode cJ2_getChars_ba4f3 42 = .ok (.istore_n 0, 1) := by decide +kernel
theorem dJ2_getChars_ba4f3_43 : decode cJ2_getChars_ba4f3 43 = .ok (.aload_n 2, 1) := by decide +kernel
theorem dJ2_getChars_ba4f3_44 : decode cJ2_getChars_ba4f3 44 = .ok (.iinc 5 (-1), 3) := by decide +kernel
theorem dJ2_getChars_ba4f3_47 : decode cJ2_getChars_ba4f3 47 = .ok (.iload 5, 2) := by decide +kernel
theorem dJ2_getChars_ba4f3_49 : decode cJ2_getChars_ba4f3 49 = .ok (.getstatic 403, 3) := by decide +kernel
theorem dJ2_getChars_ba4f3_52 : decode cJ2_getChars_ba4f3 52 = .ok (.iload 4, 2) := by decide +kernel
theorem dJ2_getChars_ba4f3_54 : decode cJ2_getChars_ba4f3 54 = .ok (.baload, 1) := by decide +kernel
theorem dJ2_getChars_ba4f3_55 : decode cJ2_getChars_ba4f3 55 = .ok (.invokestatic 111, 3) := by decide +kernel
theorem dJ2_getChars_ba4f3_58 : decode cJ2_getChars_ba4f3 58 = .ok (.aload_n 2, 1) := by decide +kernel
theorem dJ2_getChars_ba4f3_59 : decode cJ2_getChars_ba4f3 59 = .ok (.iinc 5 (-1), 3) := by decide +kernel
theorem dJ2_getChars_ba4f3_62 : decode cJ2_getChars_ba4f3 62 = .ok (.iload 5, 2) := by decide +kernel
theorem dJ2_getChars_ba4f3_64 : decode cJ2_getChars_ba4f3 64 = .ok (.getstatic 407, 3) := by decide +kernel
theorem dJ2_getChars_ba4f3_67 : decode cJ2_getChars_ba4f3 67 = .ok (.iload 4, 2) := by decide +kernel
theorem dJ2_getChars_ba4f3_69 : decode cJ2_getChars_ba4f3 69 = .ok (.baload, 1) := by decide +kernel
theorem dJ2_getChars_ba4f3_70 : decode cJ2_getChars_ba4f3 70 = .ok (.invokestatic 111, 3) := by decide +kernel
theorem dJ2_getChars_ba4f3_73 : decode cJ2_getChars_ba4f3 73 = .ok (.goto (-51), 3) := by decide +kernel
theorem dJ2_getChars_ba4f3_76 : decode cJ2_getChars_ba4f3 76 = .ok (.aload_n 2, 1) := by decide +kernel
theorem dJ2_getChars_ba4f3_77 : decode cJ2_getChars_ba4f3 77 = .ok (.iinc 5 (-1), 3) := by decide +kernel
theorem dJ2_getChars_ba4f3_80 : decode cJ2_getChars_ba4f3 80 = .ok (.iload 5, 2) := by decide +kernel
theorem dJ2_getChars_ba4f3_82 : decode cJ2_getChars_ba4f3 82 = .ok (.getstatic 403, 3) := by decide +kernel
theorem dJ2_getChars_ba4f3_85 : decode cJ2_getChars_ba4f3 85 = .ok (.iload_n 0, 1) := by decide +kernel
theorem dJ2_getChars_ba4f3_86 : decode cJ2_getChars_ba4f3 86 = .ok (.ineg, 1) := by decide +kernel
theorem dJ2_getChars_ba4f3_87 : decode cJ2_getChars_ba4f3 87 = .ok (.baload, 1) := by decide +kernel
theorem dJ2_getChars_ba4f3_88 : decode cJ2_getChars_ba4f3 88 = .ok (.invokestatic 111, 3) := by decide +kernel
theorem dJ2_getChars_ba4f3_91 : decode cJ2_getChars_ba4f3 91 = .ok (.iload_n 0, 1) := by decide +kernel
theorem dJ2_getChars_ba4f3_92 : decode cJ2_getChars_ba4f3 92 = .ok (.bipush (-9), 2) := by decide +kernel
theorem dJ2_getChars_ba4f3_94 : decode cJ2_getChars_ba4f3 94 = .ok (.if_icmp .ge 18, 3) := by decide +kernel
theorem dJ2_getChars_ba4f3_97 : decode cJ2_getChars_ba4f3 97 = .ok (.aload_n 2, 1) := by decide +kernel
theorem dJ2_getChars_ba4f3_98 : decode cJ2_getChars_ba4f3 98 = .ok (.iinc 5 (-1), 3) := by decide +kernel
theorem dJ2_getChars_ba4f3_101 : decode cJ2_getChars_ba4f3 101 = .ok (.iload 5, 2) := by decide +kernel
theorem dJ2_getChars_ba4f3_103 : decode cJ2_getChars_ba4f3 103 = .ok (.getstatic 407, 3) := by decide +kernel
theorem dJ2_getChars_ba4f3_106 : decode cJ2_getChars_ba4f3 106 = .ok (.iload_n 0, 1) := by decide +kernel
theorem dJ2_getChars_ba4f3_107 : decode cJ2_getChars_ba4f3 107 = .ok (.ineg, 1) := by decide +kernel
theorem dJ2_getChars_ba4f3_108 : decode cJ2_getChars_ba4f3 108 = .ok (.baload, 1) := by decide +kernel
theorem dJ2_getChars_ba4f3_109 : decode cJ2_getChars_ba4f3 109 = .ok (.invokestatic 111, 3) := by decide +kernel
theorem dJ2_getChars_ba4f3_112 : decode cJ2_getChars_ba4f3 112 = .ok (.iload 6, 2) := by decide +kernel
theorem dJ2_getChars_ba4f3_114 : decode cJ2_getChars_ba4f3 114 = .ok (.ifCond .eq 14, 3) := by decide +kernel
theorem dJ2_getChars_ba4f3_117 : decode cJ2_getChars_ba4f3 117 = .ok (.aload_n 2, 1) := by decide +kernel
theorem dJ2_getChars_ba4f3_118 : decode cJ2_getChars_ba4f3 118 = .ok (.iinc 5 (-1), 3) := by decide +kernel
theorem dJ2_getChars_ba4f3_121 : decode cJ2_getChars_ba4f3 121 = .ok (.iload 5, 2) := by decide +kernel
theorem dJ2_getChars_ba4f3_123 : decode cJ2_getChars_ba4f3 123 = .ok (.bipush 45, 2) := by decide +kernel
theorem dJ2_getChars_ba4f3_125 : decode cJ2_getChars_ba4f3 125 = .ok (.invokestatic 111, 3) := by decide +kernel
theorem dJ2_getChars_ba4f3_128 : decode cJ2_getChars_ba4f3 128 = .ok (.iload 5, 2) := by decide +kernel
theorem dJ2_getChars_ba4f3_130 : decode cJ2_getChars_ba4f3 130 = .ok (.ireturn, 1) := by decide +kernel
theorem dJ2_checkIndex_2214a_0 : decode cJ2_checkIndex_2214a 0 = .ok (.iload_n 0, 1) := by decide +kernel
theorem dJ2_checkIndex_2214a_1 : decode cJ2_checkIndex_2214a 1 = .ok (.aload_n 1, 1) := by decide +kernel
theorem dJ2_checkIndex_2214a_2 : decode cJ2_checkIndex_2214a 2 = .ok (.invokestatic 48, 3) := by decide +kernel
theorem dJ2_checkIndex_2214a_5 : decode cJ2_checkIndex_2214a 5 = .ok (.invokestatic 414, 3) := by decide +kernel
theorem dJ2_checkIndex_2214a_8 : decode cJ2_checkIndex_2214a 8 = .ok (.return_, 1) := by decide +kernel
theorem dJ2_checkBoundsBeginEnd_d044e_0 : decode cJ2_checkBoundsBeginEnd_d044e 0 = .ok (.iload_n 0, 1) := by decide +kernel
theorem dJ2_checkBoundsBeginEnd_d044e_1 : decode cJ2_checkBoundsBeginEnd_d044e 1 = .ok (.iload_n 1, 1) := by decide +kernel
theorem dJ2_checkBoundsBeginEnd_d044e_2 : decode cJ2_checkBoundsBeginEnd_d044e 2 = .ok (.aload_n 2, 1) := by decide +kernel
theorem dJ2_checkBoundsBeginEnd_d044e_3 : decode cJ2_checkBoundsBeginEnd_d044e 3 = .ok (.invokestatic 48, 3) := by decide +kernel
theorem dJ2_checkBoundsBeginEnd_d044e_6 : decode cJ2_checkBoundsBeginEnd_d044e 6 = .ok (.invokestatic 241, 3) := by decide +kernel
theorem dJ2_checkBoundsBeginEnd_d044e_9 : decode cJ2_checkBoundsBeginEnd_d044e 9 = .ok (.return_, 1) := by decide +kernel
theorem dJ2_checkBoundsOffCount_d044e_0 : decode cJ2_checkBoundsOffCount_d044e 0 = .ok (.iload_n 0, 1) := by decide +kernel
theorem dJ2_checkBoundsOffCount_d044e_1 : decode cJ2_checkBoundsOffCount_d044e 1 = .ok (.iload_n 1, 1) := by decide +kernel
theorem dJ2_checkBoundsOffCount_d044e_2 : decode cJ2_checkBoundsOffCount_d044e 2 = .ok (.aload_n 2, 1) := by decide +kernel
theorem dJ2_checkBoundsOffCount_d044e_3 : decode cJ2_checkBoundsOffCount_d044e 3 = .ok (.invokestatic 48, 3) := by decide +kernel
theorem dJ2_checkBoundsOffCount_d044e_6 : decode cJ2_checkBoundsOffCount_d044e 6 = .ok (.invokestatic 419, 3) := by decide +kernel
theorem dJ2_checkBoundsOffCount_d044e_9 : decode cJ2_checkBoundsOffCount_d044e 9 = .ok (.pop, 1) := by decide +kernel
theorem dJ2_checkBoundsOffCount_d044e_10 : decode cJ2_checkBoundsOffCount_d044e 10 = .ok (.return_, 1) := by decide +kernel
theorem dJxa1e45_init_da8c8_0 : decode cJxa1e45_init_da8c8 0 = .ok (.aload_n 0, 1) := by decide +kernel
theorem dJxa1e45_init_da8c8_1 : decode cJxa1e45_init_da8c8 1 = .ok (.invokespecial 1, 3) := by decide +kernel
theorem dJxa1e45_init_da8c8_4 : decode cJxa1e45_init_da8c8 4 = .ok (.return_, 1) := by decide +kernel
theorem dJxc12de_init_da8c8_0 : decode cJxc12de_init_da8c8 0 = .ok (.aload_n 0, 1) := by decide +kernel
theorem dJxc12de_init_da8c8_1 : decode cJxc12de_init_da8c8 1 = .ok (.invokespecial 1, 3) := by decide +kernel
theorem dJxc12de_init_da8c8_4 : decode cJxc12de_init_da8c8 4 = .ok (.aload_n 0, 1) := by decide +kernel
theorem dJxc12de_init_da8c8_5 : decode cJxc12de_init_da8c8 5 = .ok (.iconst 0, 1) := by decide +kernel
theorem dJxc12de_init_da8c8_6 : decode cJxc12de_init_da8c8 6 = .ok (.putfield 7, 3) := by decide +kernel
theorem dJxc12de_init_da8c8_9 : decode cJxc12de_init_da8c8 9 = .ok (.return_, 1) := by decide +kernel
theorem dJx35411_init_45d68_0 : decode cJx35411_init_45d68 0 = .ok (.aload_n 0, 1) := by decide +kernel
theorem dJx35411_init_45d68_1 : decode cJx35411_init_45d68 1 = .ok (.aload_n 1, 1) := by decide +kernel
theorem dJx35411_init_45d68_2 : decode cJx35411_init_45d68 2 = .ok (.putfield 1, 3) := by decide +kernel
theorem dJx35411_init_45d68_5 : decode cJx35411_init_45d68 5 = .ok (.aload_n 0, 1) := by decide +kernel
theorem dJx35411_init_45d68_6 : decode cJx35411_init_45d68 6 = .ok (.invokespecial 7, 3) := by decide +kernel
theorem dJx35411_init_45d68_9 : decode cJx35411_init_45d68 9 = .ok (.aload_n 0, 1) := by decide +kernel
theorem dJx35411_init_45d68_10 : decode cJx35411_init_45d68 10 = .ok (.iconst (-1), 1) := by decide +kernel
theorem dJx35411_init_45d68_11 : decode cJx35411_init_45d68 11 = .ok (.putfield 13, 3) := by decide +kernel
theorem dJx35411_init_45d68_14 : decode cJx35411_init_45d68 14 = .ok (.aload_n 0, 1) := by decide +kernel
theorem dJx35411_init_45d68_15 : decode cJx35411_init_45d68 15 = .ok (.aload_n 0, 1) := by decide +kernel
theorem dJx35411_init_45d68_16 : decode cJx35411_init_45d68 16 = .ok (.getfield 1, 3) := by decide +kernel
theorem dJx35411_init_45d68_19 : decode cJx35411_init_45d68 19 = .ok (.getfield 17, 3) := by decide +kernel
theorem dJx35411_init_45d68_22 : decode cJx35411_init_45d68 22 = .ok (.putfield 22, 3) := by decide +kernel
theorem dJx35411_init_45d68_25 : decode cJx35411_init_45d68 25 = .ok (.return_, 1) := by decide +kernel
theorem dJx35411_hasNext_aae02_0 : decode cJx35411_hasNext_aae02 0 = .ok (.aload_n 0, 1) := by decide +kernel
theorem dJx35411_hasNext_aae02_1 : decode cJx35411_hasNext_aae02 1 = .ok (.getfield 25, 3) := by decide +kernel
theorem dJx35411_hasNext_aae02_4 : decode cJx35411_hasNext_aae02 4 = .ok (.aload_n 0, 1) := by decide +kernel
theorem dJx35411_hasNext_aae02_5 : decode cJx35411_hasNext_aae02 5 = .ok (.getfield 1, 3) := by decide +kernel
theorem dJx35411_hasNext_aae02_8 : decode cJx35411_hasNext_aae02 8 = .ok (.getfield 28, 3) := by decide +kernel
theorem dJx35411_hasNext_aae02_11 : decode cJx35411_hasNext_aae02 11 = .ok (.if_icmp .eq 7, 3) := by decide +kernel
theorem dJx35411_hasNext_aae02_14 : decode cJx35411_hasNext_aae02 14 = .ok (.iconst 1, 1) := by decide +kernel
theorem dJx35411_hasNext_aae02_15 : decode cJx35411_hasNext_aae02 15 = .ok (.goto 4, 3) := by decide +kernel
theorem dJx35411_hasNext_aae02_18 : decode cJx35411_hasNext_aae02 18 = .ok (.iconst 0, 1) := by decide +kernel
theorem dJx35411_hasNext_aae02_19 : decode cJx35411_hasNext_aae02 19 = .ok (.ireturn, 1) := by decide +kernel
theorem dJx35411_next_0502b_0 : decode cJx35411_next_0502b 0 = .ok (.aload_n 0, 1) := by decide +kernel
theorem dJx35411_next_0502b_1 : decode cJx35411_next_0502b 1 = .ok (.invokevirtual 31, 3) := by decide +kernel
theorem dJx35411_next_0502b_4 : decode cJx35411_next_0502b 4 = .ok (.aload_n 0, 1) := by decide +kernel
theorem dJx35411_next_0502b_5 : decode cJx35411_next_0502b 5 = .ok (.getfield 25, 3) := by decide +kernel
theorem dJx35411_next_0502b_8 : decode cJx35411_next_0502b 8 = .ok (.istore_n 1, 1) := by decide +kernel
theorem dJx35411_next_0502b_9 : decode cJx35411_next_0502b 9 = .ok (.iload_n 1, 1) := by decide +kernel
theorem dJx35411_next_0502b_10 : decode cJx35411_next_0502b 10 = .ok (.aload_n 0, 1) := by decide +kernel
theorem dJx35411_next_0502b_11 : decode cJx35411_next_0502b 11 = .ok (.getfield 1, 3) := by decide +kernel
theorem dJx35411_next_0502b_14 : decode cJx35411_next_0502b 14 = .ok (.getfield 28, 3) := by decide +kernel
theorem dJx35411_next_0502b_17 : decode cJx35411_next_0502b 17 = .ok (.if_icmp .lt 11, 3) := by decide +kernel
theorem dJx35411_next_0502b_20 : decode cJx35411_next_0502b 20 = .ok (.new 34, 3) := by decide +kernel
theorem dJx35411_next_0502b_23 : decode cJx35411_next_0502b 23 = .ok (.dup, 1) := by decide +kernel
theorem dJx35411_next_0502b_24 : decode cJx35411_next_0502b 24 = .ok (.invokespecial 36, 3) := by decide +kernel
theorem dJx35411_next_0502b_27 : decode cJx35411_next_0502b 27 = .ok (.athrow, 1) := by decide +kernel
theorem dJx35411_next_0502b_28 : decode cJx35411_next_0502b 28 = .ok (.aload_n 0, 1) := by decide +kernel
theorem dJx35411_next_0502b_29 : decode cJx35411_next_0502b 29 = .ok (.getfield 1, 3) := by decide +kernel
theorem dJx35411_next_0502b_32 : decode cJx35411_next_0502b 32 = .ok (.getfield 37, 3) := by decide +kernel
theorem dJx35411_next_0502b_35 : decode cJx35411_next_0502b 35 = .ok (.astore_n 2, 1) := by decide +kernel
theorem dJx35411_next_0502b_36 : decode cJx35411_next_0502b 36 = .ok (.iload_n 1, 1) := by decide +kernel
theorem dJx35411_next_0502b_37 : decode cJx35411_next_0502b 37 = .ok (.aload_n 2, 1) := by decide +kernel
theorem dJx35411_next_0502b_38 : decode cJx35411_next_0502b 38 = .ok (.arraylength, 1) := by decide +kernel
theorem dJx35411_next_0502b_39 : decode cJx35411_next_0502b 39 = .ok (.if_icmp .lt 11, 3) := by decide +kernel
theorem dJx35411_next_0502b_42 : decode cJx35411_next_0502b 42 = .ok (.new 41, 3) := by decide +kernel
theorem dJx35411_next_0502b_45 : decode cJx35411_next_0502b 45 = .ok (.dup, 1) := by decide +kernel
theorem dJx35411_next_0502b_46 : decode cJx35411_next_0502b 46 = .ok (.invokespecial 43, 3) := by decide +kernel
theorem dJx35411_next_0502b_49 : decode cJx35411_next_0502b 49 = .ok (.athrow, 1) := by decide +kernel
theorem dJx35411_next_0502b_50 : decode cJx35411_next_0502b 50 = .ok (.aload_n 0, 1) := by decide +kernel
theorem dJx35411_next_0502b_51 : decode cJx35411_next_0502b 51 = .ok (.iload_n 1, 1) := by decide +kernel
theorem dJx35411_next_0502b_52 : decode cJx35411_next_0502b 52 = .ok (.iconst 1, 1) := by decide +kernel
theorem dJx35411_next_0502b_53 : decode cJx35411_next_0502b 53 = .ok (.iadd, 1) := by decide +kernel
theorem dJx35411_next_0502b_54 : decode cJx35411_next_0502b 54 = .ok (.putfield 25, 3) := by decide +kernel
theorem dJx35411_next_0502b_57 : decode cJx35411_next_0502b 57 = .ok (.aload_n 2, 1) := by decide +kernel
theorem dJx35411_next_0502b_58 : decode cJx35411_next_0502b 58 = .ok (.aload_n 0, 1) := by decide +kernel
theorem dJx35411_next_0502b_59 : decode cJx35411_next_0502b 59 = .ok (.iload_n 1, 1) := by decide +kernel
theorem dJx35411_next_0502b_60 : decode cJx35411_next_0502b 60 = .ok (.dup_x1, 1) := by decide +kernel
theorem dJx35411_next_0502b_61 : decode cJx35411_next_0502b 61 = .ok (.putfield 13, 3) := by decide +kernel
theorem dJx35411_next_0502b_64 : decode cJx35411_next_0502b 64 = .ok (.aaload, 1) := by decide +kernel
theorem dJx35411_next_0502b_65 : decode cJx35411_next_0502b 65 = .ok (.areturn, 1) := by decide +kernel
theorem dJx35411_checkForComodification_da8c8_0 : decode cJx35411_checkForComodification_da8c8 0 = .ok (.aload_n 0, 1) := by decide +kernel
theorem dJx35411_checkForComodification_da8c8_1 : decode cJx35411_checkForComodification_da8c8 1 = .ok (.getfield 1, 3) := by decide +kernel
theorem dJx35411_checkForComodification_da8c8_4 : decode cJx35411_checkForComodification_da8c8 4 = .ok (.getfield 17, 3) := by decide +kernel
theorem dJx35411_checkForComodification_da8c8_7 : decode cJx35411_checkForComodification_da8c8 7 = .ok (.aload_n 0, 1) := by decide +kernel
theorem dJx35411_checkForComodification_da8c8_8 : decode cJx35411_checkForComodification_da8c8 8 = .ok (.getfield 22, 3) := by decide +kernel
theorem dJx35411_checkForComodification_da8c8_11 : decode cJx35411_checkForComodification_da8c8 11 = .ok (.if_icmp .eq 11, 3) := by decide +kernel
theorem dJx35411_checkForComodification_da8c8_14 : decode cJx35411_checkForComodification_da8c8 14 = .ok (.new 41, 3) := by decide +kernel
theorem dJx35411_checkForComodification_da8c8_17 : decode cJx35411_checkForComodification_da8c8 17 = .ok (.dup, 1) := by decide +kernel
theorem dJx35411_checkForComodification_da8c8_18 : decode cJx35411_checkForComodification_da8c8 18 = .ok (.invokespecial 43, 3) := by decide +kernel
theorem dJx35411_checkForComodification_da8c8_21 : decode cJx35411_checkForComodification_da8c8 21 = .ok (.athrow, 1) := by decide +kernel
theorem dJx35411_checkForComodification_da8c8_22 : decode cJx35411_checkForComodification_da8c8 22 = .ok (.return_, 1) := by decide +kernel
theorem dJx4a65c_init_da8c8_0 : decode cJx4a65c_init_da8c8 0 = .ok (.aload_n 0, 1) := by decide +kernel
theorem dJx4a65c_init_da8c8_1 : decode cJx4a65c_init_da8c8 1 = .ok (.invokespecial 1, 3) := by decide +kernel
theorem dJx4a65c_init_da8c8_4 : decode cJx4a65c_init_da8c8 4 = .ok (.aload_n 0, 1) := by decide +kernel
theorem dJx4a65c_init_da8c8_5 : decode cJx4a65c_init_da8c8 5 = .ok (.getstatic 39, 3) := by decide +kernel
theorem dJx4a65c_init_da8c8_8 : decode cJx4a65c_init_da8c8 8 = .ok (.putfield 9, 3) := by decide +kernel
theorem dJx4a65c_init_da8c8_11 : decode cJx4a65c_init_da8c8 11 = .ok (.return_, 1) := by decide +kernel
theorem dJx4a65c_grow_92f84_0 : decode cJx4a65c_grow_92f84 0 = .ok (.aload_n 0, 1) := by decide +kernel
theorem dJx4a65c_grow_92f84_1 : decode cJx4a65c_grow_92f84 1 = .ok (.getfield 9, 3) := by decide +kernel
theorem dJx4a65c_grow_92f84_4 : decode cJx4a65c_grow_92f84 4 = .ok (.arraylength, 1) := by decide +kernel
theorem dJx4a65c_grow_92f84_5 : decode cJx4a65c_grow_92f84 5 = .ok (.istore_n 2, 1) := by decide +kernel
theorem dJx4a65c_grow_92f84_6 : decode cJx4a65c_grow_92f84 6 = .ok (.iload_n 2, 1) := by decide +kernel
theorem dJx4a65c_grow_92f84_7 : decode cJx4a65c_grow_92f84 7 = .ok (.ifCond .gt 13, 3) := by decide +kernel
theorem dJx4a65c_grow_92f84_10 : decode cJx4a65c_grow_92f84 10 = .ok (.aload_n 0, 1) := by decide +kernel
theorem dJx4a65c_grow_92f84_11 : decode cJx4a65c_grow_92f84 11 = .ok (.getfield 9, 3) := by decide +kernel
theorem dJx4a65c_grow_92f84_14 : decode cJx4a65c_grow_92f84 14 = .ok (.getstatic 39, 3) := by decide +kernel
theorem dJx4a65c_grow_92f84_17 : decode cJx4a65c_grow_92f84 17 = .ok (.if_acmp .eq 28, 3) := by decide +kernel
theorem dJx4a65c_grow_92f84_20 : decode cJx4a65c_grow_92f84 20 = .ok (.iload_n 2, 1) := by decide +kernel
theorem dJx4a65c_grow_92f84_21 : decode cJx4a65c_grow_92f84 21 = .ok (.iload_n 1, 1) := by decide +kernel
theorem dJx4a65c_grow_92f84_22 : decode cJx4a65c_grow_92f84 22 = .ok (.iload_n 2, 1) := by decide +kernel
theorem dJx4a65c_grow_92f84_23 : decode cJx4a65c_grow_92f84 23 = .ok (.isub, 1) := by decide +kernel
theorem dJx4a65c_grow_92f84_24 : decode cJx4a65c_grow_92f84 24 = .ok (.iload_n 2, 1) := by decide +kernel
theorem dJx4a65c_grow_92f84_25 : decode cJx4a65c_grow_92f84 25 = .ok (.iconst 1, 1) := by decide +kernel
theorem dJx4a65c_grow_92f84_26 : decode cJx4a65c_grow_92f84 26 = .ok (.ishr, 1) := by decide +kernel
theorem dJx4a65c_grow_92f84_27 : decode cJx4a65c_grow_92f84 27 = .ok (.invokestatic 73, 3) := by decide +kernel
theorem dJx4a65c_grow_92f84_30 : decode cJx4a65c_grow_92f84 30 = .ok (.istore_n 3, 1) := by decide +kernel
theorem dJx4a65c_grow_92f84_31 : decode cJx4a65c_grow_92f84 31 = .ok (.aload_n 0, 1) := by decide +kernel
theorem dJx4a65c_grow_92f84_32 : decode cJx4a65c_grow_92f84 32 = .ok (.aload_n 0, 1) := by decide +kernel
theorem dJx4a65c_grow_92f84_33 : decode cJx4a65c_grow_92f84 33 = .ok (.getfield 9, 3) := by decide +kernel
theorem dJx4a65c_grow_92f84_36 : decode cJx4a65c_grow_92f84 36 = .ok (.iload_n 3, 1) := by decide +kernel
theorem dJx4a65c_grow_92f84_37 : decode cJx4a65c_grow_92f84 37 = .ok (.invokestatic 66, 3) := by decide +kernel
theorem dJx4a65c_grow_92f84_40 : decode cJx4a65c_grow_92f84 40 = .ok (.dup_x1, 1) := by decide +kernel
theorem dJx4a65c_grow_92f84_41 : decode cJx4a65c_grow_92f84 41 = .ok (.putfield 9, 3) := by decide +kernel
theorem dJx4a65c_grow_92f84_44 : decode cJx4a65c_grow_92f84 44 = .ok (.areturn, 1) := by decide +kernel
theorem dJx4a65c_grow_92f84_45 : decode cJx4a65c_grow_92f84 45 = .ok (.aload_n 0, 1) := by decide +kernel
theorem dJx4a65c_grow_92f84_46 : decode cJx4a65c_grow_92f84 46 = .ok (.bipush 10, 2) := by decide +kernel
theorem dJx4a65c_grow_92f84_48 : decode cJx4a65c_grow_92f84 48 = .ok (.iload_n 1, 1) := by decide +kernel
theorem dJx4a65c_grow_92f84_49 : decode cJx4a65c_grow_92f84 49 = .ok (.invokestatic 79, 3) := by decide +kernel
theorem dJx4a65c_grow_92f84_52 : decode cJx4a65c_grow_92f84 52 = .ok (.anewarray 7, 3) := by decide +kernel
theorem dJx4a65c_grow_92f84_55 : decode cJx4a65c_grow_92f84 55 = .ok (.dup_x1, 1) := by decide +kernel
theorem dJx4a65c_grow_92f84_56 : decode cJx4a65c_grow_92f84 56 = .ok (.putfield 9, 3) := by decide +kernel
theorem dJx4a65c_grow_92f84_59 : decode cJx4a65c_grow_92f84 59 = .ok (.areturn, 1) := by decide +kernel
theorem dJx4a65c_grow_d5877_0 : decode cJx4a65c_grow_d5877 0 = .ok (.aload_n 0, 1) := by decide +kernel
theorem dJx4a65c_grow_d5877_1 : decode cJx4a65c_grow_d5877 1 = .ok (.aload_n 0, 1) := by decide +kernel
theorem dJx4a65c_grow_d5877_2 : decode cJx4a65c_grow_d5877 2 = .ok (.getfield 48, 3) := by decide +kernel
theorem dJx4a65c_grow_d5877_5 : decode cJx4a65c_grow_d5877 5 = .ok (.iconst 1, 1) := by decide +kernel
theorem dJx4a65c_grow_d5877_6 : decode cJx4a65c_grow_d5877 6 = .ok (.iadd, 1) := by decide +kernel
theorem dJx4a65c_grow_d5877_7 : decode cJx4a65c_grow_d5877 7 = .ok (.invokevirtual 69, 3) := by decide +kernel
theorem dJx4a65c_grow_d5877_10 : decode cJx4a65c_grow_d5877 10 = .ok (.areturn, 1) := by decide +kernel
theorem dJx4a65c_size_8abf5_0 : decode cJx4a65c_size_8abf5 0 = .ok (.aload_n 0, 1) := by decide +kernel
theorem dJx4a65c_size_8abf5_1 : decode cJx4a65c_size_8abf5 1 = .ok (.getfield 48, 3) := by decide +kernel
theorem dJx4a65c_size_8abf5_4 : decode cJx4a65c_size_8abf5 4 = .ok (.ireturn, 1) := by decide +kernel
theorem dJx4a65c_elementData_915e3_0 : decode cJx4a65c_elementData_915e3 0 = .ok (.aload_n 0, 1) := by decide +kernel
theorem dJx4a65c_elementData_915e3_1 : decode cJx4a65c_elementData_915e3 1 = .ok (.getfield 9, 3) := by decide +kernel
theorem dJx4a65c_elementData_915e3_4 : decode cJx4a65c_elementData_915e3 4 = .ok (.iload_n 1, 1) := by decide +kernel
theorem dJx4a65c_elementData_915e3_5 : decode cJx4a65c_elementData_915e3 5 = .ok (.aaload, 1) := by decide +kernel
theorem dJx4a65c_elementData_915e3_6 : decode cJx4a65c_elementData_915e3 6 = .ok (.areturn, 1) := by decide +kernel
theorem dJx4a65c_get_915e3_0 : decode cJx4a65c_get_915e3 0 = .ok (.iload_n 1, 1) := by decide +kernel
theorem dJx4a65c_get_915e3_1 : decode cJx4a65c_get_915e3 1 = .ok (.aload_n 0, 1) := by decide +kernel
theorem dJx4a65c_get_915e3_2 : decode cJx4a65c_get_915e3 2 = .ok (.getfield 48, 3) := by decide +kernel
theorem dJx4a65c_get_915e3_5 : decode cJx4a65c_get_915e3 5 = .ok (.invokestatic 118, 3) := by decide +kernel
theorem dJx4a65c_get_915e3_8 : decode cJx4a65c_get_915e3 8 = .ok (.pop, 1) := by decide +kernel
theorem dJx4a65c_get_915e3_9 : decode cJx4a65c_get_915e3 9 = .ok (.aload_n 0, 1) := by decide +kernel
theorem dJx4a65c_get_915e3_10 : decode cJx4a65c_get_915e3 10 = .ok (.iload_n 1, 1) := by decide +kernel
theorem dJx4a65c_get_915e3_11 : decode cJx4a65c_get_915e3 11 = .ok (.invokevirtual 123, 3) := by decide +kernel
theorem dJx4a65c_get_915e3_14 : decode cJx4a65c_get_915e3 14 = .ok (.areturn, 1) := by decide +kernel
theorem dJx4a65c_add_72be8_0 : decode cJx4a65c_add_72be8 0 = .ok (.iload_n 3, 1) := by decide +kernel
theorem dJx4a65c_add_72be8_1 : decode cJx4a65c_add_72be8 1 = .ok (.aload_n 2, 1) := by decide +kernel
theorem dJx4a65c_add_72be8_2 : decode cJx4a65c_add_72be8 2 = .ok (.arraylength, 1) := by decide +kernel
theorem dJx4a65c_add_72be8_3 : decode cJx4a65c_add_72be8 3 = .ok (.if_icmp .ne 8, 3) := by decide +kernel
theorem dJx4a65c_add_72be8_6 : decode cJx4a65c_add_72be8 6 = .ok (.aload_n 0, 1) := by decide +kernel
theorem dJx4a65c_add_72be8_7 : decode cJx4a65c_add_72be8 7 = .ok (.invokevirtual 129, 3) := by decide +kernel
theorem dJx4a65c_add_72be8_10 : decode cJx4a65c_add_72be8 10 = .ok (.astore_n 2, 1) := by decide +kernel
theorem dJx4a65c_add_72be8_11 : decode cJx4a65c_add_72be8 11 = .ok (.aload_n 2, 1) := by decide +kernel
theorem dJx4a65c_add_72be8_12 : decode cJx4a65c_add_72be8 12 = .ok (.iload_n 3, 1) := by decide +kernel
theorem dJx4a65c_add_72be8_13 : decode cJx4a65c_add_72be8 13 = .ok (.aload_n 1, 1) := by decide +kernel
theorem dJx4a65c_add_72be8_14 : decode cJx4a65c_add_72be8 14 = .ok (.aastore, 1) := by decide +kernel
theorem dJx4a65c_add_72be8_15 : decode cJx4a65c_add_72be8 15 = .ok (.aload_n 0, 1) := by decide +kernel
theorem dJx4a65c_add_72be8_16 : decode cJx4a65c_add_72be8 16 = .ok (.iload_n 3, 1) := by decide +kernel
theorem dJx4a65c_add_72be8_17 : decode cJx4a65c_add_72be8 17 = .ok (.iconst 1, 1) := by decide +kernel
theorem dJx4a65c_add_72be8_18 : decode cJx4a65c_add_72be8 18 = .ok (.iadd, 1) := by decide +kernel
theorem dJx4a65c_add_72be8_19 : decode cJx4a65c_add_72be8 19 = .ok (.putfield 48, 3) := by decide +kernel
theorem dJx4a65c_add_72be8_22 : decode cJx4a65c_add_72be8 22 = .ok (.return_, 1) := by decide +kernel
theorem dJx4a65c_add_9ea2d_0 : decode cJx4a65c_add_9ea2d 0 = .ok (.aload_n 0, 1) := by decide +kernel
theorem dJx4a65c_add_9ea2d_1 : decode cJx4a65c_add_9ea2d 1 = .ok (.dup, 1) := by decide +kernel
theorem dJx4a65c_add_9ea2d_2 : decode cJx4a65c_add_9ea2d 2 = .ok (.getfield 63, 3) := by decide +kernel
theorem dJx4a65c_add_9ea2d_5 : decode cJx4a65c_add_9ea2d 5 = .ok (.iconst 1, 1) := by decide +kernel
theorem dJx4a65c_add_9ea2d_6 : decode cJx4a65c_add_9ea2d 6 = .ok (.iadd, 1) := by decide +kernel
theorem dJx4a65c_add_9ea2d_7 : decode cJx4a65c_add_9ea2d 7 = .ok (.putfield 63, 3) := by decide +kernel
theorem dJx4a65c_add_9ea2d_10 : decode cJx4a65c_add_9ea2d 10 = .ok (.aload_n 0, 1) := by decide +kernel
theorem dJx4a65c_add_9ea2d_11 : decode cJx4a65c_add_9ea2d 11 = .ok (.aload_n 1, 1) := by decide +kernel
theorem dJx4a65c_add_9ea2d_12 : decode cJx4a65c_add_9ea2d 12 = .ok (.aload_n 0, 1) := by decide +kernel
theorem dJx4a65c_add_9ea2d_13 : decode cJx4a65c_add_9ea2d 13 = .ok (.getfield 9, 3) := by decide +kernel
theorem dJx4a65c_add_9ea2d_16 : decode cJx4a65c_add_9ea2d 16 = .ok (.aload_n 0, 1) := by decide +kernel
theorem dJx4a65c_add_9ea2d_17 : decode cJx4a65c_add_9ea2d 17 = .ok (.getfield 48, 3) := by decide +kernel
theorem dJx4a65c_add_9ea2d_20 : decode cJx4a65c_add_9ea2d 20 = .ok (.invokevirtual 131, 3) := by decide +kernel
theorem dJx4a65c_add_9ea2d_23 : decode cJx4a65c_add_9ea2d 23 = .ok (.iconst 1, 1) := by decide +kernel
theorem dJx4a65c_add_9ea2d_24 : decode cJx4a65c_add_9ea2d 24 = .ok (.ireturn, 1) := by decide +kernel
theorem dJx4a65c_iterator_32c93_0 : decode cJx4a65c_iterator_32c93 0 = .ok (.new 267, 3) := by decide +kernel
theorem dJx4a65c_iterator_32c93_3 : decode cJx4a65c_iterator_32c93 3 = .ok (.dup, 1) := by decide +kernel
theorem dJx4a65c_iterator_32c93_4 : decode cJx4a65c_iterator_32c93 4 = .ok (.aload_n 0, 1) := by decide +kernel
theorem dJx4a65c_iterator_32c93_5 : decode cJx4a65c_iterator_32c93 5 = .ok (.invokespecial 269, 3) := by decide +kernel
theorem dJx4a65c_iterator_32c93_8 : decode cJx4a65c_iterator_32c93 8 = .ok (.areturn, 1) := by decide +kernel
theorem dJ7_rangeCheck_23922_0 : decode cJ7_rangeCheck_23922 0 = .ok (.iload_n 1, 1) := by decide +kernel
theorem dJ7_rangeCheck_23922_1 : decode cJ7_rangeCheck_23922 1 = .ok (.iload_n 2, 1) := by decide +kernel
theorem dJ7_rangeCheck_23922_2 : decode cJ7_rangeCheck_23922 2 = .ok (.if_icmp .le 44, 3) := by decide +kernel
theorem dJ7_rangeCheck_23922_5 : decode cJ7_rangeCheck_23922 5 = .ok (.new 43, 3) := by decide +kernel
theorem dJ7_rangeCheck_23922_8 : decode cJ7_rangeCheck_23922 8 = .ok (.dup, 1) := by decide +kernel
theorem dJ7_rangeCheck_23922_9 : decode cJ7_rangeCheck_23922 9 = .ok (.new 45, 3) := by decide +kernel
theorem dJ7_rangeCheck_23922_12 : decode cJ7_rangeCheck_23922 12 = .ok (.dup, 1) := by decide +kernel
theorem dJ7_rangeCheck_23922_13 : decode cJ7_rangeCheck_23922 13 = .ok (.invokespecial 47, 3) := by decide +kernel
theorem dJ7_rangeCheck_23922_16 : decode cJ7_rangeCheck_23922 16 = .ok (.ldc 48, 2) := by decide +kernel
theorem dJ7_rangeCheck_23922_18 : decode cJ7_rangeCheck_23922 18 = .ok (.invokevirtual 50, 3) := by decide +kernel
theorem dJ7_rangeCheck_23922_21 : decode cJ7_rangeCheck_23922 21 = .ok (.iload_n 1, 1) := by decide +kernel
theorem dJ7_rangeCheck_23922_22 : decode cJ7_rangeCheck_23922 22 = .ok (.invokevirtual 54, 3) := by decide +kernel
theorem dJ7_rangeCheck_23922_25 : decode cJ7_rangeCheck_23922 25 = .ok (.ldc 57, 2) := by decide +kernel
theorem dJ7_rangeCheck_23922_27 : decode cJ7_rangeCheck_23922 27 = .ok (.invokevirtual 50, 3) := by decide +kernel
theorem dJ7_rangeCheck_23922_30 : decode cJ7_rangeCheck_23922 30 = .ok (.iload_n 2, 1) := by decide +kernel
theorem dJ7_rangeCheck_23922_31 : decode cJ7_rangeCheck_23922 31 = .ok (.invokevirtual 54, 3) := by decide +kernel
theorem dJ7_rangeCheck_23922_34 : decode cJ7_rangeCheck_23922 34 = .ok (.ldc 59, 2) := by decide +kernel
theorem dJ7_rangeCheck_23922_36 : decode cJ7_rangeCheck_23922 36 = .ok (.invokevirtual 50, 3) := by decide +kernel
theorem dJ7_rangeCheck_23922_39 : decode cJ7_rangeCheck_23922 39 = .ok (.invokevirtual 61, 3) := by decide +kernel
theorem dJ7_rangeCheck_23922_42 : decode cJ7_rangeCheck_23922 42 = .ok (.invokespecial 65, 3) := by decide +kernel
theorem dJ7_rangeCheck_23922_45 : decode cJ7_rangeCheck_23922 45 = .ok (.athrow, 1) := by decide +kernel
theorem dJ7_rangeCheck_23922_46 : decode cJ7_rangeCheck_23922 46 = .ok (.iload_n 1, 1) := by decide +kernel
theorem dJ7_rangeCheck_23922_47 : decode cJ7_rangeCheck_23922 47 = .ok (.ifCond .ge 12, 3) := by decide +kernel
theorem dJ7_rangeCheck_23922_50 : decode cJ7_rangeCheck_23922 50 = .ok (.new 68, 3) := by decide +kernel
theorem dJ7_rangeCheck_23922_53 : decode cJ7_rangeCheck_23922 53 = .ok (.dup, 1) := by decide +kernel
theorem dJ7_rangeCheck_23922_54 : decode cJ7_rangeCheck_23922 54 = .ok (.iload_n 1, 1) := by decide +kernel
theorem dJ7_rangeCheck_23922_55 : decode cJ7_rangeCheck_23922 55 = .ok (.invokespecial 70, 3) := by decide +kernel
theorem dJ7_rangeCheck_23922_58 : decode cJ7_rangeCheck_23922 58 = .ok (.athrow, 1) := by decide +kernel
theorem dJ7_rangeCheck_23922_59 : decode cJ7_rangeCheck_23922 59 = .ok (.iload_n 2, 1) := by decide +kernel
theorem dJ7_rangeCheck_23922_60 : decode cJ7_rangeCheck_23922 60 = .ok (.iload_n 0, 1) := by decide +kernel
theorem dJ7_rangeCheck_23922_61 : decode cJ7_rangeCheck_23922 61 = .ok (.if_icmp .le 12, 3) := by decide +kernel
theorem dJ7_rangeCheck_23922_64 : decode cJ7_rangeCheck_23922 64 = .ok (.new 68, 3) := by decide +kernel
theorem dJ7_rangeCheck_23922_67 : decode cJ7_rangeCheck_23922 67 = .ok (.dup, 1) := by decide +kernel
theorem dJ7_rangeCheck_23922_68 : decode cJ7_rangeCheck_23922 68 = .ok (.iload_n 2, 1) := by decide +kernel
theorem dJ7_rangeCheck_23922_69 : decode cJ7_rangeCheck_23922 69 = .ok (.invokespecial 70, 3) := by decide +kernel
theorem dJ7_rangeCheck_23922_72 : decode cJ7_rangeCheck_23922 72 = .ok (.athrow, 1) := by decide +kernel
theorem dJ7_rangeCheck_23922_73 : decode cJ7_rangeCheck_23922 73 = .ok (.return_, 1) := by decide +kernel
theorem dJ7_fill_eb02e_0 : decode cJ7_fill_eb02e 0 = .ok (.aload_n 0, 1) := by decide +kernel
theorem dJ7_fill_eb02e_1 : decode cJ7_fill_eb02e 1 = .ok (.arraylength, 1) := by decide +kernel
theorem dJ7_fill_eb02e_2 : decode cJ7_fill_eb02e 2 = .ok (.iload_n 1, 1) := by decide +kernel
theorem dJ7_fill_eb02e_3 : decode cJ7_fill_eb02e 3 = .ok (.iload_n 2, 1) := by decide +kernel
theorem dJ7_fill_eb02e_4 : decode cJ7_fill_eb02e 4 = .ok (.invokestatic 13, 3) := by decide +kernel
theorem dJ7_fill_eb02e_7 : decode cJ7_fill_eb02e 7 = .ok (.iload_n 1, 1) := by decide +kernel
theorem dJ7_fill_eb02e_8 : decode cJ7_fill_eb02e 8 = .ok (.istore 4, 2) := by decide +kernel
theorem dJ7_fill_eb02e_10 : decode cJ7_fill_eb02e 10 = .ok (.iload 4, 2) := by decide +kernel
theorem dJ7_fill_eb02e_12 : decode cJ7_fill_eb02e 12 = .ok (.iload_n 2, 1) := by decide +kernel
theorem dJ7_fill_eb02e_13 : decode cJ7_fill_eb02e 13 = .ok (.if_icmp .ge 14, 3) := by decide +kernel
theorem dJ7_fill_eb02e_16 : decode cJ7_fill_eb02e 16 = .ok (.aload_n 0, 1) := by decide +kernel
theorem dJ7_fill_eb02e_17 : decode cJ7_fill_eb02e 17 = .ok (.iload 4, 2) := by decide +kernel
theorem dJ7_fill_eb02e_19 : decode cJ7_fill_eb02e 19 = .ok (.iload_n 3, 1) := by decide +kernel
theorem dJ7_fill_eb02e_20 : decode cJ7_fill_eb02e 20 = .ok (.bastore, 1) := by decide +kernel
theorem dJ7_fill_eb02e_21 : decode cJ7_fill_eb02e 21 = .ok (.iinc 4 1, 3) := by decide +kernel
theorem dJ7_fill_eb02e_24 : decode cJ7_fill_eb02e 24 = .ok (.goto (-14), 3) := by decide +kernel
theorem dJ7_fill_eb02e_27 : decode cJ7_fill_eb02e 27 = .ok (.return_, 1) := by decide +kernel
theorem dJ7_copyOf_1904c_0 : decode cJ7_copyOf_1904c 0 = .ok (.aload_n 0, 1) := by decide +kernel
theorem dJ7_copyOf_1904c_1 : decode cJ7_copyOf_1904c 1 = .ok (.iload_n 1, 1) := by decide +kernel
theorem dJ7_copyOf_1904c_2 : decode cJ7_copyOf_1904c 2 = .ok (.aload_n 0, 1) := by decide +kernel
theorem dJ7_copyOf_1904c_3 : decode cJ7_copyOf_1904c 3 = .ok (.invokevirtual 86, 3) := by decide +kernel
theorem dJ7_copyOf_1904c_6 : decode cJ7_copyOf_1904c 6 = .ok (.invokestatic 300, 3) := by decide +kernel
theorem dJ7_copyOf_1904c_9 : decode cJ7_copyOf_1904c 9 = .ok (.areturn, 1) := by decide +kernel
theorem dJ7_copyOf_6403c_0 : decode cJ7_copyOf_6403c 0 = .ok (.aload_n 2, 1) := by decide +kernel
theorem dJ7_copyOf_6403c_1 : decode cJ7_copyOf_6403c 1 = .ok (.ldc 110, 2) := by decide +kernel
theorem dJ7_copyOf_6403c_3 : decode cJ7_copyOf_6403c 3 = .ok (.if_acmp .ne 10, 3) := by decide +kernel
theorem dJ7_copyOf_6403c_6 : decode cJ7_copyOf_6403c 6 = .ok (.iload_n 1, 1) := by decide +kernel
theorem dJ7_copyOf_6403c_7 : decode cJ7_copyOf_6403c 7 = .ok (.anewarray 2, 3) := by decide +kernel
theorem dJ7_copyOf_6403c_10 : decode cJ7_copyOf_6403c 10 = .ok (.goto 14, 3) := by decide +kernel
theorem dJ7_copyOf_6403c_13 : decode cJ7_copyOf_6403c 13 = .ok (.aload_n 2, 1) := by decide +kernel
theorem dJ7_copyOf_6403c_14 : decode cJ7_copyOf_6403c 14 = .ok (.invokevirtual 90, 3) := by decide +kernel
theorem dJ7_copyOf_6403c_17 : decode cJ7_copyOf_6403c 17 = .ok (.iload_n 1, 1) := by decide +kernel
theorem dJ7_copyOf_6403c_18 : decode cJ7_copyOf_6403c 18 = .ok (.invokestatic 95, 3) := by decide +kernel
theorem dJ7_copyOf_6403c_21 : decode cJ7_copyOf_6403c 21 = .ok (.checkcast 110, 3) := by decide +kernel
theorem dJ7_copyOf_6403c_24 : decode cJ7_copyOf_6403c 24 = .ok (.astore_n 3, 1) := by decide +kernel
theorem dJ7_copyOf_6403c_25 : decode cJ7_copyOf_6403c 25 = .ok (.aload_n 0, 1) := by decide +kernel
theorem dJ7_copyOf_6403c_26 : decode cJ7_copyOf_6403c 26 = .ok (.iconst 0, 1) := by decide +kernel
theorem dJ7_copyOf_6403c_27 : decode cJ7_copyOf_6403c 27 = .ok (.aload_n 3, 1) := by decide +kernel
theorem dJ7_copyOf_6403c_28 : decode cJ7_copyOf_6403c 28 = .ok (.iconst 0, 1) := by decide +kernel
theorem dJ7_copyOf_6403c_29 : decode cJ7_copyOf_6403c 29 = .ok (.aload_n 0, 1) := by decide +kernel
theorem dJ7_copyOf_6403c_30 : decode cJ7_copyOf_6403c 30 = .ok (.arraylength, 1) := by decide +kernel
theorem dJ7_copyOf_6403c_31 : decode cJ7_copyOf_6403c 31 = .ok (.iload_n 1, 1) := by decide +kernel
theorem dJ7_copyOf_6403c_32 : decode cJ7_copyOf_6403c 32 = .ok (.invokestatic 304, 3) := by decide +kernel
theorem dJ7_copyOf_6403c_35 : decode cJ7_copyOf_6403c 35 = .ok (.invokestatic 150, 3) := by decide +kernel
theorem dJ7_copyOf_6403c_38 : decode cJ7_copyOf_6403c 38 = .ok (.aload_n 3, 1) := by decide +kernel
theorem dJ7_copyOf_6403c_39 : decode cJ7_copyOf_6403c 39 = .ok (.areturn, 1) := by decide +kernel
theorem dJ7_copyOf_9075b_0 : decode cJ7_copyOf_9075b 0 = .ok (.iload_n 1, 1) := by decide +kernel
theorem dJ7_copyOf_9075b_1 : decode cJ7_copyOf_9075b 1 = .ok (.aload_n 0, 1) := by decide +kernel
theorem dJ7_copyOf_9075b_2 : decode cJ7_copyOf_9075b 2 = .ok (.arraylength, 1) := by decide +kernel
theorem dJ7_copyOf_9075b_3 : decode cJ7_copyOf_9075b 3 = .ok (.if_icmp .ne 11, 3) := by decide +kernel
theorem dJ7_copyOf_9075b_6 : decode cJ7_copyOf_9075b 6 = .ok (.aload_n 0, 1) := by decide +kernel
theorem dJ7_copyOf_9075b_7 : decode cJ7_copyOf_9075b 7 = .ok (.invokevirtual 310, 3) := by decide +kernel
theorem dJ7_copyOf_9075b_10 : decode cJ7_copyOf_9075b 10 = .ok (.checkcast 311, 3) := by decide +kernel
theorem dJ7_copyOf_9075b_13 : decode cJ7_copyOf_9075b 13 = .ok (.areturn, 1) := by decide +kernel
theorem dJ7_copyOf_9075b_14 : decode cJ7_copyOf_9075b 14 = .ok (.iload_n 1, 1) := by decide +kernel
theorem dJ7_copyOf_9075b_15 : decode cJ7_copyOf_9075b 15 = .ok (.newarray .byte, 2) := by decide +kernel
theorem dJ7_copyOf_9075b_17 : decode cJ7_copyOf_9075b 17 = .ok (.astore_n 2, 1) := by decide +kernel
theorem dJ7_copyOf_9075b_18 : decode cJ7_copyOf_9075b 18 = .ok (.aload_n 0, 1) := by decide +kernel
theorem dJ7_copyOf_9075b_19 : decode cJ7_copyOf_9075b 19 = .ok (.iconst 0, 1) := by decide +kernel
theorem dJ7_copyOf_9075b_20 : decode cJ7_copyOf_9075b 20 = .ok (.aload_n 2, 1) := by decide +kernel
theorem dJ7_copyOf_9075b_21 : decode cJ7_copyOf_9075b 21 = .ok (.iconst 0, 1) := by decide +kernel
theorem dJ7_copyOf_9075b_22 : decode cJ7_copyOf_9075b 22 = .ok (.aload_n 0, 1) := by decide +kernel
theorem dJ7_copyOf_9075b_23 : decode cJ7_copyOf_9075b 23 = .ok (.arraylength, 1) := by decide +kernel
theorem dJ7_copyOf_9075b_24 : decode cJ7_copyOf_9075b 24 = .ok (.iload_n 1, 1) := by decide +kernel
theorem dJ7_copyOf_9075b_25 : decode cJ7_copyOf_9075b 25 = .ok (.invokestatic 304, 3) := by decide +kernel
theorem dJ7_copyOf_9075b_28 : decode cJ7_copyOf_9075b 28 = .ok (.invokestatic 150, 3) := by decide +kernel
theorem dJ7_copyOf_9075b_31 : decode cJ7_copyOf_9075b 31 = .ok (.aload_n 2, 1) := by decide +kernel
theorem dJ7_copyOf_9075b_32 : decode cJ7_copyOf_9075b 32 = .ok (.areturn, 1) := by decide +kernel
theorem dJ7_checkLength_df160_0 : decode cJ7_checkLength_df160 0 = .ok (.iload_n 1, 1) := by decide +kernel
theorem dJ7_checkLength_df160_1 : decode cJ7_checkLength_df160 1 = .ok (.iload_n 0, 1) := by decide +kernel
theorem dJ7_checkLength_df160_2 : decode cJ7_checkLength_df160 2 = .ok (.if_icmp .ge 35, 3) := by decide +kernel
theorem dJ7_checkLength_df160_5 : decode cJ7_checkLength_df160 5 = .ok (.new 43, 3) := by decide +kernel
theorem dJ7_checkLength_df160_8 : decode cJ7_checkLength_df160 8 = .ok (.dup, 1) := by decide +kernel
theorem dJ7_checkLength_df160_9 : decode cJ7_checkLength_df160 9 = .ok (.new 45, 3) := by decide +kernel
theorem dJ7_checkLength_df160_12 : decode cJ7_checkLength_df160 12 = .ok (.dup, 1) := by decide +kernel
theorem dJ7_checkLength_df160_13 : decode cJ7_checkLength_df160 13 = .ok (.invokespecial 47, 3) := by decide +kernel
theorem dJ7_checkLength_df160_16 : decode cJ7_checkLength_df160 16 = .ok (.iload_n 0, 1) := by decide +kernel
theorem dJ7_checkLength_df160_17 : decode cJ7_checkLength_df160 17 = .ok (.invokevirtual 54, 3) := by decide +kernel
theorem dJ7_checkLength_df160_20 : decode cJ7_checkLength_df160 20 = .ok (.ldc_w 337, 3) := by decide +kernel
theorem dJ7_checkLength_df160_23 : decode cJ7_checkLength_df160 23 = .ok (.invokevirtual 50, 3) := by decide +kernel
theorem dJ7_checkLength_df160_26 : decode cJ7_checkLength_df160 26 = .ok (.iload_n 1, 1) := by decide +kernel
theorem dJ7_checkLength_df160_27 : decode cJ7_checkLength_df160 27 = .ok (.invokevirtual 54, 3) := by decide +kernel
theorem dJ7_checkLength_df160_30 : decode cJ7_checkLength_df160 30 = .ok (.invokevirtual 61, 3) := by decide +kernel
theorem dJ7_checkLength_df160_33 : decode cJ7_checkLength_df160 33 = .ok (.invokespecial 65, 3) := by decide +kernel
theorem dJ7_checkLength_df160_36 : decode cJ7_checkLength_df160 36 = .ok (.athrow, 1) := by decide +kernel
theorem dJ7_checkLength_df160_37 : decode cJ7_checkLength_df160 37 = .ok (.return_, 1) := by decide +kernel
theorem dJ7_copyOfRange_39247_0 : decode cJ7_copyOfRange_39247 0 = .ok (.iload_n 1, 1) := by decide +kernel
theorem dJ7_copyOfRange_39247_1 : decode cJ7_copyOfRange_39247 1 = .ok (.ifCond .ne 9, 3) := by decide +kernel
theorem dJ7_copyOfRange_39247_4 : decode cJ7_copyOfRange_39247 4 = .ok (.iload_n 2, 1) := by decide +kernel
theorem dJ7_copyOfRange_39247_5 : decode cJ7_copyOfRange_39247 5 = .ok (.aload_n 0, 1) := by decide +kernel
theorem dJ7_copyOfRange_39247_6 : decode cJ7_copyOfRange_39247 6 = .ok (.arraylength, 1) := by decide +kernel
theorem dJ7_copyOfRange_39247_7 : decode cJ7_copyOfRange_39247 7 = .ok (.if_icmp .eq 10, 3) := by decide +kernel
theorem dJ7_copyOfRange_39247_10 : decode cJ7_copyOfRange_39247 10 = .ok (.aload_n 0, 1) := by decide +kernel
theorem dJ7_copyOfRange_39247_11 : decode cJ7_copyOfRange_39247 11 = .ok (.iload_n 1, 1) := by decide +kernel
theorem dJ7_copyOfRange_39247_12 : decode cJ7_copyOfRange_39247 12 = .ok (.iload_n 2, 1) := by decide +kernel
theorem dJ7_copyOfRange_39247_13 : decode cJ7_copyOfRange_39247 13 = .ok (.invokestatic 339, 3) := by decide +kernel
theorem dJ7_copyOfRange_39247_16 : decode cJ7_copyOfRange_39247 16 = .ok (.areturn, 1) := by decide +kernel
theorem dJ7_copyOfRange_39247_17 : decode cJ7_copyOfRange_39247 17 = .ok (.aload_n 0, 1) := by decide +kernel
theorem dJ7_copyOfRange_39247_18 : decode cJ7_copyOfRange_39247 18 = .ok (.invokevirtual 310, 3) := by decide +kernel
theorem dJ7_copyOfRange_39247_21 : decode cJ7_copyOfRange_39247 21 = .ok (.checkcast 311, 3) := by decide +kernel
theorem dJ7_copyOfRange_39247_24 : decode cJ7_copyOfRange_39247 24 = .ok (.areturn, 1) := by decide +kernel
theorem dJ7_copyOfRangeByte_39247_0 : decode cJ7_copyOfRangeByte_39247 0 = .ok (.iload_n 1, 1) := by decide +kernel
theorem dJ7_copyOfRangeByte_39247_1 : decode cJ7_copyOfRangeByte_39247 1 = .ok (.iload_n 2, 1) := by decide +kernel
theorem dJ7_copyOfRangeByte_39247_2 : decode cJ7_copyOfRangeByte_39247 2 = .ok (.invokestatic 343, 3) := by decide +kernel
theorem dJ7_copyOfRangeByte_39247_5 : decode cJ7_copyOfRangeByte_39247 5 = .ok (.iload_n 2, 1) := by decide +kernel
theorem dJ7_copyOfRangeByte_39247_6 : decode cJ7_copyOfRangeByte_39247 6 = .ok (.iload_n 1, 1) := by decide +kernel
theorem dJ7_copyOfRangeByte_39247_7 : decode cJ7_copyOfRangeByte_39247 7 = .ok (.isub, 1) := by decide +kernel
theorem dJ7_copyOfRangeByte_39247_8 : decode cJ7_copyOfRangeByte_39247 8 = .ok (.istore_n 3, 1) := by decide +kernel
theorem dJ7_copyOfRangeByte_39247_9 : decode cJ7_copyOfRangeByte_39247 9 = .ok (.iload_n 3, 1) := by decide +kernel
theorem dJ7_copyOfRangeByte_39247_10 : decode cJ7_copyOfRangeByte_39247 10 = .ok (.newarray .byte, 2) := by decide +kernel
theorem dJ7_copyOfRangeByte_39247_12 : decode cJ7_copyOfRangeByte_39247 12 = .ok (.astore 4, 2) := by decide +kernel
theorem dJ7_copyOfRangeByte_39247_14 : decode cJ7_copyOfRangeByte_39247 14 = .ok (.aload_n 0, 1) := by decide +kernel
theorem dJ7_copyOfRangeByte_39247_15 : decode cJ7_copyOfRangeByte_39247 15 = .ok (.iload_n 1, 1) := by decide +kernel
theorem dJ7_copyOfRangeByte_39247_16 : decode cJ7_copyOfRangeByte_39247 16 = .ok (.aload 4, 2) := by decide +kernel
theorem dJ7_copyOfRangeByte_39247_18 : decode cJ7_copyOfRangeByte_39247 18 = .ok (.iconst 0, 1) := by decide +kernel
theorem dJ7_copyOfRangeByte_39247_19 : decode cJ7_copyOfRangeByte_39247 19 = .ok (.aload_n 0, 1) := by decide +kernel
theorem dJ7_copyOfRangeByte_39247_20 : decode cJ7_copyOfRangeByte_39247 20 = .ok (.arraylength, 1) := by decide +kernel
theorem dJ7_copyOfRangeByte_39247_21 : decode cJ7_copyOfRangeByte_39247 21 = .ok (.iload_n 1, 1) := by decide +kernel
theorem dJ7_copyOfRangeByte_39247_22 : decode cJ7_copyOfRangeByte_39247 22 = .ok (.isub, 1) := by decide +kernel
theorem dJ7_copyOfRangeByte_39247_23 : decode cJ7_copyOfRangeByte_39247 23 = .ok (.iload_n 3, 1) := by decide +kernel
theorem dJ7_copyOfRangeByte_39247_24 : decode cJ7_copyOfRangeByte_39247 24 = .ok (.invokestatic 304, 3) := by decide +kernel
theorem dJ7_copyOfRangeByte_39247_27 : decode cJ7_copyOfRangeByte_39247 27 = .ok (.invokestatic 150, 3) := by decide +kernel
theorem dJ7_copyOfRangeByte_39247_30 : decode cJ7_copyOfRangeByte_39247 30 = .ok (.aload 4, 2) := by decide +kernel
theorem dJ7_copyOfRangeByte_39247_32 : decode cJ7_copyOfRangeByte_39247 32 = .ok (.areturn, 1) := by decide +kernel
theorem dJ15_checkIndex_7cf53_0 : decode cJ15_checkIndex_7cf53 0 = .ok (.iload_n 0, 1) := by decide +kernel
theorem dJ15_checkIndex_7cf53_1 : decode cJ15_checkIndex_7cf53 1 = .ok (.iload_n 1, 1) := by decide +kernel
theorem dJ15_checkIndex_7cf53_2 : decode cJ15_checkIndex_7cf53 2 = .ok (.aconst_null, 1) := by decide +kernel
theorem dJ15_checkIndex_7cf53_3 : decode cJ15_checkIndex_7cf53 3 = .ok (.invokestatic 105, 3) := by decide +kernel
theorem dJ15_checkIndex_7cf53_6 : decode cJ15_checkIndex_7cf53 6 = .ok (.ireturn, 1) := by decide +kernel
theorem dJ8_newLength_cabcc_0 : decode cJ8_newLength_cabcc 0 = .ok (.iload_n 0, 1) := by decide +kernel
theorem dJ8_newLength_cabcc_1 : decode cJ8_newLength_cabcc 1 = .ok (.iload_n 1, 1) := by decide +kernel
theorem dJ8_newLength_cabcc_2 : decode cJ8_newLength_cabcc 2 = .ok (.iload_n 2, 1) := by decide +kernel
theorem dJ8_newLength_cabcc_3 : decode cJ8_newLength_cabcc 3 = .ok (.invokestatic 194, 3) := by decide +kernel
theorem dJ8_newLength_cabcc_6 : decode cJ8_newLength_cabcc 6 = .ok (.iadd, 1) := by decide +kernel
theorem dJ8_newLength_cabcc_7 : decode cJ8_newLength_cabcc 7 = .ok (.istore_n 3, 1) := by decide +kernel
theorem dJ8_newLength_cabcc_8 : decode cJ8_newLength_cabcc 8 = .ok (.iconst 0, 1) := by decide +kernel
theorem dJ8_newLength_cabcc_9 : decode cJ8_newLength_cabcc 9 = .ok (.iload_n 3, 1) := by decide +kernel
theorem dJ8_newLength_cabcc_10 : decode cJ8_newLength_cabcc 10 = .ok (.if_icmp .ge 11, 3) := by decide +kernel
theorem dJ8_newLength_cabcc_13 : decode cJ8_newLength_cabcc 13 = .ok (.iload_n 3, 1) := by decide +kernel
theorem dJ8_newLength_cabcc_14 : decode cJ8_newLength_cabcc 14 = .ok (.ldc 200, 2) := by decide +kernel
theorem dJ8_newLength_cabcc_16 : decode cJ8_newLength_cabcc 16 = .ok (.if_icmp .gt 5, 3) := by decide +kernel
theorem dJ8_newLength_cabcc_19 : decode cJ8_newLength_cabcc 19 = .ok (.iload_n 3, 1) := by decide +kernel
theorem dJ8_newLength_cabcc_20 : decode cJ8_newLength_cabcc 20 = .ok (.ireturn, 1) := by decide +kernel
theorem dJ8_newLength_cabcc_21 : decode cJ8_newLength_cabcc 21 = .ok (.iload_n 0, 1) := by decide +kernel
theorem dJ8_newLength_cabcc_22 : decode cJ8_newLength_cabcc 22 = .ok (.iload_n 1, 1) := by decide +kernel
theorem dJ8_newLength_cabcc_23 : decode cJ8_newLength_cabcc 23 = .ok (.invokestatic 201, 3) := by decide +kernel
theorem dJ8_newLength_cabcc_26 : decode cJ8_newLength_cabcc 26 = .ok (.ireturn, 1) := by decide +kernel
theorem dJ8_hugeLength_7cf53_0 : decode cJ8_hugeLength_7cf53 0 = .ok (.iload_n 0, 1) := by decide +kernel
theorem dJ8_hugeLength_7cf53_1 : decode cJ8_hugeLength_7cf53 1 = .ok (.iload_n 1, 1) := by decide +kernel
theorem dJ8_hugeLength_7cf53_2 : decode cJ8_hugeLength_7cf53 2 = .ok (.iadd, 1) := by decide +kernel
theorem dJ8_hugeLength_7cf53_3 : decode cJ8_hugeLength_7cf53 3 = .ok (.istore_n 2, 1) := by decide +kernel
theorem dJ8_hugeLength_7cf53_4 : decode cJ8_hugeLength_7cf53 4 = .ok (.iload_n 2, 1) := by decide +kernel
theorem dJ8_hugeLength_7cf53_5 : decode cJ8_hugeLength_7cf53 5 = .ok (.ifCond .ge 44, 3) := by decide +kernel
theorem dJ8_hugeLength_7cf53_8 : decode cJ8_hugeLength_7cf53 8 = .ok (.new 204, 3) := by decide +kernel
theorem dJ8_hugeLength_7cf53_11 : decode cJ8_hugeLength_7cf53 11 = .ok (.dup, 1) := by decide +kernel
theorem dJ8_hugeLength_7cf53_12 : decode cJ8_hugeLength_7cf53 12 = .ok (.new 89, 3) := by decide +kernel
theorem dJ8_hugeLength_7cf53_15 : decode cJ8_hugeLength_7cf53 15 = .ok (.dup, 1) := by decide +kernel
theorem dJ8_hugeLength_7cf53_16 : decode cJ8_hugeLength_7cf53 16 = .ok (.invokespecial 91, 3) := by decide +kernel
theorem dJ8_hugeLength_7cf53_19 : decode cJ8_hugeLength_7cf53 19 = .ok (.ldc 206, 2) := by decide +kernel
theorem dJ8_hugeLength_7cf53_21 : decode cJ8_hugeLength_7cf53 21 = .ok (.invokevirtual 94, 3) := by decide +kernel
theorem dJ8_hugeLength_7cf53_24 : decode cJ8_hugeLength_7cf53 24 = .ok (.iload_n 0, 1) := by decide +kernel
theorem dJ8_hugeLength_7cf53_25 : decode cJ8_hugeLength_7cf53 25 = .ok (.invokevirtual 98, 3) := by decide +kernel
theorem dJ8_hugeLength_7cf53_28 : decode cJ8_hugeLength_7cf53 28 = .ok (.ldc 208, 2) := by decide +kernel
theorem dJ8_hugeLength_7cf53_30 : decode cJ8_hugeLength_7cf53 30 = .ok (.invokevirtual 94, 3) := by decide +kernel
theorem dJ8_hugeLength_7cf53_33 : decode cJ8_hugeLength_7cf53 33 = .ok (.iload_n 1, 1) := by decide +kernel
theorem dJ8_hugeLength_7cf53_34 : decode cJ8_hugeLength_7cf53 34 = .ok (.invokevirtual 98, 3) := by decide +kernel
theorem dJ8_hugeLength_7cf53_37 : decode cJ8_hugeLength_7cf53 37 = .ok (.ldc 210, 2) := by decide +kernel
theorem dJ8_hugeLength_7cf53_39 : decode cJ8_hugeLength_7cf53 39 = .ok (.invokevirtual 94, 3) := by decide +kernel
theorem dJ8_hugeLength_7cf53_42 : decode cJ8_hugeLength_7cf53 42 = .ok (.invokevirtual 101, 3) := by decide +kernel
theorem dJ8_hugeLength_7cf53_45 : decode cJ8_hugeLength_7cf53 45 = .ok (.invokespecial 212, 3) := by decide +kernel
theorem dJ8_hugeLength_7cf53_48 : decode cJ8_hugeLength_7cf53 48 = .ok (.athrow, 1) := by decide +kernel
theorem dJ8_hugeLength_7cf53_49 : decode cJ8_hugeLength_7cf53 49 = .ok (.iload_n 2, 1) := by decide +kernel
theorem dJ8_hugeLength_7cf53_50 : decode cJ8_hugeLength_7cf53 50 = .ok (.ldc 200, 2) := by decide +kernel
theorem dJ8_hugeLength_7cf53_52 : decode cJ8_hugeLength_7cf53 52 = .ok (.if_icmp .gt 6, 3) := by decide +kernel
theorem dJ8_hugeLength_7cf53_55 : decode cJ8_hugeLength_7cf53 55 = .ok (.ldc 200, 2) := by decide +kernel
theorem dJ8_hugeLength_7cf53_57 : decode cJ8_hugeLength_7cf53 57 = .ok (.ireturn, 1) := by decide +kernel
theorem dJ8_hugeLength_7cf53_58 : decode cJ8_hugeLength_7cf53 58 = .ok (.iload_n 2, 1) := by decide +kernel
theorem dJ8_hugeLength_7cf53_59 : decode cJ8_hugeLength_7cf53 59 = .ok (.ireturn, 1) := by decide +kernel
theorem dJ3_checkIndex_8e157_0 : decode cJ3_checkIndex_8e157 0 = .ok (.iload_n 0, 1) := by decide +kernel
theorem dJ3_checkIndex_8e157_1 : decode cJ3_checkIndex_8e157 1 = .ok (.ifCond .lt 8, 3) := by decide +kernel
theorem dJ3_checkIndex_8e157_4 : decode cJ3_checkIndex_8e157 4 = .ok (.iload_n 0, 1) := by decide +kernel
theorem dJ3_checkIndex_8e157_5 : decode cJ3_checkIndex_8e157 5 = .ok (.iload_n 1, 1) := by decide +kernel
theorem dJ3_checkIndex_8e157_6 : decode cJ3_checkIndex_8e157 6 = .ok (.if_icmp .lt 10, 3) := by decide +kernel
theorem dJ3_checkIndex_8e157_9 : decode cJ3_checkIndex_8e157 9 = .ok (.aload_n 2, 1) := by decide +kernel
theorem dJ3_checkIndex_8e157_10 : decode cJ3_checkIndex_8e157 10 = .ok (.iload_n 0, 1) := by decide +kernel
theorem dJ3_checkIndex_8e157_11 : decode cJ3_checkIndex_8e157 11 = .ok (.iload_n 1, 1) := by decide +kernel
theorem dJ3_checkIndex_8e157_12 : decode cJ3_checkIndex_8e157 12 = .ok (.invokestatic 95, 3) := by decide +kernel
theorem dJ3_checkIndex_8e157_15 : decode cJ3_checkIndex_8e157 15 = .ok (.athrow, 1) := by decide +kernel
theorem dJ3_checkIndex_8e157_16 : decode cJ3_checkIndex_8e157 16 = .ok (.iload_n 0, 1) := by decide +kernel
theorem dJ3_checkIndex_8e157_17 : decode cJ3_checkIndex_8e157 17 = .ok (.ireturn, 1) := by decide +kernel
theorem dJ3_checkFromToIndex_8c36e_0 : decode cJ3_checkFromToIndex_8c36e 0 = .ok (.iload_n 0, 1) := by decide +kernel
theorem dJ3_checkFromToIndex_8c36e_1 : decode cJ3_checkFromToIndex_8c36e 1 = .ok (.ifCond .lt 13, 3) := by decide +kernel
theorem dJ3_checkFromToIndex_8c36e_4 : decode cJ3_checkFromToIndex_8c36e 4 = .ok (.iload_n 0, 1) := by decide +kernel
theorem dJ3_checkFromToIndex_8c36e_5 : decode cJ3_checkFromToIndex_8c36e 5 = .ok (.iload_n 1, 1) := by decide +kernel
theorem dJ3_checkFromToIndex_8c36e_6 : decode cJ3_checkFromToIndex_8c36e 6 = .ok (.if_icmp .gt 8, 3) := by decide +kernel
theorem dJ3_checkFromToIndex_8c36e_9 : decode cJ3_checkFromToIndex_8c36e 9 = .ok (.iload_n 1, 1) := by decide +kernel
theorem dJ3_checkFromToIndex_8c36e_10 : decode cJ3_checkFromToIndex_8c36e 10 = .ok (.iload_n 2, 1) := by decide +kernel
theorem dJ3_checkFromToIndex_8c36e_11 : decode cJ3_checkFromToIndex_8c36e 11 = .ok (.if_icmp .le 11, 3) := by decide +kernel
theorem dJ3_checkFromToIndex_8c36e_14 : decode cJ3_checkFromToIndex_8c36e 14 = .ok (.aload_n 3, 1) := by decide +kernel
theorem dJ3_checkFromToIndex_8c36e_15 : decode cJ3_checkFromToIndex_8c36e 15 = .ok (.iload_n 0, 1) := by decide +kernel
theorem dJ3_checkFromToIndex_8c36e_16 : decode cJ3_checkFromToIndex_8c36e 16 = .ok (.iload_n 1, 1) := by decide +kernel
theorem dJ3_checkFromToIndex_8c36e_17 : decode cJ3_checkFromToIndex_8c36e 17 = .ok (.iload_n 2, 1) := by decide +kernel
theorem dJ3_checkFromToIndex_8c36e_18 : decode cJ3_checkFromToIndex_8c36e 18 = .ok (.invokestatic 99, 3) := by decide +kernel
theorem dJ3_checkFromToIndex_8c36e_21 : decode cJ3_checkFromToIndex_8c36e 21 = .ok (.athrow, 1) := by decide +kernel
theorem dJ3_checkFromToIndex_8c36e_22 : decode cJ3_checkFromToIndex_8c36e 22 = .ok (.iload_n 0, 1) := by decide +kernel
theorem dJ3_checkFromToIndex_8c36e_23 : decode cJ3_checkFromToIndex_8c36e 23 = .ok (.ireturn, 1) := by decide +kernel
theorem dJ3_checkFromIndexSize_8c36e_0 : decode cJ3_checkFromIndexSize_8c36e 0 = .ok (.iload_n 2, 1) := by decide +kernel
theorem dJ3_checkFromIndexSize_8c36e_1 : decode cJ3_checkFromIndexSize_8c36e 1 = .ok (.iload_n 0, 1) := by decide +kernel
theorem dJ3_checkFromIndexSize_8c36e_2 : decode cJ3_checkFromIndexSize_8c36e 2 = .ok (.ior, 1) := by decide +kernel
theorem dJ3_checkFromIndexSize_8c36e_3 : decode cJ3_checkFromIndexSize_8c36e 3 = .ok (.iload_n 1, 1) := by decide +kernel
theorem dJ3_checkFromIndexSize_8c36e_4 : decode cJ3_checkFromIndexSize_8c36e 4 = .ok (.ior, 1) := by decide +kernel
theorem dJ3_checkFromIndexSize_8c36e_5 : decode cJ3_checkFromIndexSize_8c36e 5 = .ok (.ifCond .lt 10, 3) := by decide +kernel
theorem dJ3_checkFromIndexSize_8c36e_8 : decode cJ3_checkFromIndexSize_8c36e 8 = .ok (.iload_n 1, 1) := by decide +kernel
theorem dJ3_checkFromIndexSize_8c36e_9 : decode cJ3_checkFromIndexSize_8c36e 9 = .ok (.iload_n 2, 1) := by decide +kernel
theorem dJ3_checkFromIndexSize_8c36e_10 : decode cJ3_checkFromIndexSize_8c36e 10 = .ok (.iload_n 0, 1) := by decide +kernel
theorem dJ3_checkFromIndexSize_8c36e_11 : decode cJ3_checkFromIndexSize_8c36e 11 = .ok (.isub, 1) := by decide +kernel
theorem dJ3_checkFromIndexSize_8c36e_12 : decode cJ3_checkFromIndexSize_8c36e 12 = .ok (.if_icmp .le 11, 3) := by decide +kernel
theorem dJ3_checkFromIndexSize_8c36e_15 : decode cJ3_checkFromIndexSize_8c36e 15 = .ok (.aload_n 3, 1) := by decide +kernel
theorem dJ3_checkFromIndexSize_8c36e_16 : decode cJ3_checkFromIndexSize_8c36e 16 = .ok (.iload_n 0, 1) := by decide +kernel
theorem dJ3_checkFromIndexSize_8c36e_17 : decode cJ3_checkFromIndexSize_8c36e 17 = .ok (.iload_n 1, 1) := by decide +kernel
theorem dJ3_checkFromIndexSize_8c36e_18 : decode cJ3_checkFromIndexSize_8c36e 18 = .ok (.iload_n 2, 1) := by decide +kernel
theorem dJ3_checkFromIndexSize_8c36e_19 : decode cJ3_checkFromIndexSize_8c36e 19 = .ok (.invokestatic 103, 3) := by decide +kernel
theorem dJ3_checkFromIndexSize_8c36e_22 : decode cJ3_checkFromIndexSize_8c36e 22 = .ok (.athrow, 1) := by decide +kernel
theorem dJ3_checkFromIndexSize_8c36e_23 : decode cJ3_checkFromIndexSize_8c36e 23 = .ok (.iload_n 0, 1) := by decide +kernel
theorem dJ3_checkFromIndexSize_8c36e_24 : decode cJ3_checkFromIndexSize_8c36e 24 = .ok (.ireturn, 1) := by decide +kernel
theorem dL_cell_0 : decode cL_cell 0 = .ok (.iload_n 1, 1) := by decide +kernel
theorem dL_cell_1 : decode cL_cell 1 = .ok (.aload_n 0, 1) := by decide +kernel
theorem dL_cell_2 : decode cL_cell 2 = .ok (.arraylength, 1) := by decide +kernel
theorem dL_cell_3 : decode cL_cell 3 = .ok (.if_icmp .ge 9, 3) := by decide +kernel
theorem dL_cell_6 : decode cL_cell 6 = .ok (.aload_n 0, 1) := by decide +kernel
theorem dL_cell_7 : decode cL_cell 7 = .ok (.iload_n 1, 1) := by decide +kernel
theorem dL_cell_8 : decode cL_cell 8 = .ok (.iaload, 1) := by decide +kernel
theorem dL_cell_9 : decode cL_cell 9 = .ok (.goto 10, 3) := by decide +kernel
theorem dL_cell_12 : decode cL_cell 12 = .ok (.bipush 113, 2) := by decide +kernel
theorem dL_cell_14 : decode cL_cell 14 = .ok (.iload_n 1, 1) := by decide +kernel
theorem dL_cell_15 : decode cL_cell 15 = .ok (.imul, 1) := by decide +kernel
theorem dL_cell_16 : decode cL_cell 16 = .ok (.bipush 67, 2) := by decide +kernel
theorem dL_cell_18 : decode cL_cell 18 = .ok (.iadd, 1) := by decide +kernel
theorem dL_cell_19 : decode cL_cell 19 = .ok (.ireturn, 1) := by decide +kernel
theorem dL_bits_0 : decode cL_bits 0 = .ok (.iload_n 0, 1) := by decide +kernel
theorem dL_bits_1 : decode cL_bits 1 = .ok (.iload_n 1, 1) := by decide +kernel
theorem dL_bits_2 : decode cL_bits 2 = .ok (.iushr, 1) := by decide +kernel
theorem dL_bits_3 : decode cL_bits 3 = .ok (.iconst 1, 1) := by decide +kernel
theorem dL_bits_4 : decode cL_bits 4 = .ok (.iload_n 2, 1) := by decide +kernel
theorem dL_bits_5 : decode cL_bits 5 = .ok (.ishl, 1) := by decide +kernel
theorem dL_bits_6 : decode cL_bits 6 = .ok (.iconst 1, 1) := by decide +kernel
theorem dL_bits_7 : decode cL_bits 7 = .ok (.isub, 1) := by decide +kernel
theorem dL_bits_8 : decode cL_bits 8 = .ok (.iand, 1) := by decide +kernel
theorem dL_bits_9 : decode cL_bits 9 = .ok (.ireturn, 1) := by decide +kernel
theorem dL_told_0 : decode cL_told 0 = .ok (.iconst 0, 1) := by decide +kernel
theorem dL_told_1 : decode cL_told 1 = .ok (.istore_n 2, 1) := by decide +kernel
theorem dL_told_2 : decode cL_told 2 = .ok (.iload_n 2, 1) := by decide +kernel
theorem dL_told_3 : decode cL_told 3 = .ok (.aload_n 1, 1) := by decide +kernel
theorem dL_told_4 : decode cL_told 4 = .ok (.invokevirtual 7, 3) := by decide +kernel
theorem dL_told_7 : decode cL_told 7 = .ok (.if_icmp .ge 89, 3) := by decide +kernel
theorem dL_told_10 : decode cL_told 10 = .ok (.iconst 5, 1) := by decide +kernel
theorem dL_told_11 : decode cL_told 11 = .ok (.newarray .int, 2) := by decide +kernel
theorem dL_told_13 : decode cL_told 13 = .ok (.astore_n 3, 1) := by decide +kernel
theorem dL_told_14 : decode cL_told 14 = .ok (.iconst 0, 1) := by decide +kernel
theorem dL_told_15 : decode cL_told 15 = .ok (.istore 4, 2) := by decide +kernel
theorem dL_told_17 : decode cL_told 17 = .ok (.iload 4, 2) := by decide +kernel
theorem dL_told_19 : decode cL_told 19 = .ok (.bipush 20, 2) := by decide +kernel
theorem dL_told_21 : decode cL_told 21 = .ok (.if_icmp .ge 49, 3) := by decide +kernel
theorem dL_told_24 : decode cL_told 24 = .ok (.aload_n 3, 1) := by decide +kernel
theorem dL_told_25 : decode cL_told 25 = .ok (.iload 4, 2) := by decide +kernel
theorem dL_told_27 : decode cL_told 27 = .ok (.iconst 4, 1) := by decide +kernel
theorem dL_told_28 : decode cL_told 28 = .ok (.idiv, 1) := by decide +kernel
theorem dL_told_29 : decode cL_told 29 = .ok (.aload_n 3, 1) := by decide +kernel
theorem dL_told_30 : decode cL_told 30 = .ok (.iload 4, 2) := by decide +kernel
theorem dL_told_32 : decode cL_told 32 = .ok (.iconst 4, 1) := by decide +kernel
theorem dL_told_33 : decode cL_told 33 = .ok (.idiv, 1) := by decide +kernel
theorem dL_told_34 : decode cL_told 34 = .ok (.iaload, 1) := by decide +kernel
theorem dL_told_35 : decode cL_told 35 = .ok (.bipush 8, 2) := by decide +kernel
theorem dL_told_37 : decode cL_told 37 = .ok (.ishl, 1) := by decide +kernel
theorem dL_told_38 : decode cL_told 38 = .ok (.iload_n 2, 1) := by decide +kernel
theorem dL_told_39 : decode cL_told 39 = .ok (.iload 4, 2) := by decide +kernel
theorem dL_told_41 : decode cL_told 41 = .ok (.iadd, 1) := by decide +kernel
theorem dL_told_42 : decode cL_told 42 = .ok (.aload_n 1, 1) := by decide +kernel
theorem dL_told_43 : decode cL_told 43 = .ok (.invokevirtual 7, 3) := by decide +kernel
theorem dL_told_46 : decode cL_told 46 = .ok (.if_icmp .ge 14, 3) := by decide +kernel
theorem dL_told_49 : decode cL_told 49 = .ok (.aload_n 1, 1) := by decide +kernel
theorem dL_told_50 : decode cL_told 50 = .ok (.iload_n 2, 1) := by decide +kernel
theorem dL_told_51 : decode cL_told 51 = .ok (.iload 4, 2) := by decide +kernel
theorem dL_told_53 : decode cL_told 53 = .ok (.iadd, 1) := by decide +kernel
theorem dL_told_54 : decode cL_told 54 = .ok (.invokevirtual 13, 3) := by decide +kernel
theorem dL_told_57 : decode cL_told 57 = .ok (.goto 5, 3) := by decide +kernel
theorem dL_told_60 : decode cL_told 60 = .ok (.bipush 32, 2) := by decide +kernel
theorem dL_told_62 : decode cL_told 62 = .ok (.ior, 1) := by decide +kernel
theorem dL_told_63 : decode cL_told 63 = .ok (.iastore, 1) := by decide +kernel
theorem dL_told_64 : decode cL_told 64 = .ok (.iinc 4 1, 3) := by decide +kernel
theorem dL_told_67 : decode cL_told 67 = .ok (.goto (-50), 3) := by decide +kernel
theorem dL_told_70 : decode cL_told 70 = .ok (.aload_n 0, 1) := by decide +kernel
theorem dL_told_71 : decode cL_told 71 = .ok (.aload_n 3, 1) := by decide +kernel
theorem dL_told_72 : decode cL_told 72 = .ok (.iconst 0, 1) := by decide +kernel
theorem dL_told_73 : decode cL_told 73 = .ok (.iaload, 1) := by decide +kernel
theorem dL_told_74 : decode cL_told 74 = .ok (.aload_n 3, 1) := by decide +kernel
theorem dL_told_75 : decode cL_told 75 = .ok (.iconst 1, 1) := by decide +kernel
theorem dL_told_76 : decode cL_told 76 = .ok (.iaload, 1) := by decide +kernel
theorem dL_told_77 : decode cL_told 77 = .ok (.aload_n 3, 1) := by decide +kernel
theorem dL_told_78 : decode cL_told 78 = .ok (.iconst 2, 1) := by decide +kernel
theorem dL_told_79 : decode cL_told 79 = .ok (.iaload, 1) := by decide +kernel
theorem dL_told_80 : decode cL_told 80 = .ok (.aload_n 3, 1) := by decide +kernel
theorem dL_told_81 : decode cL_told 81 = .ok (.iconst 3, 1) := by decide +kernel
theorem dL_told_82 : decode cL_told 82 = .ok (.iaload, 1) := by decide +kernel
theorem dL_told_83 : decode cL_told 83 = .ok (.aload_n 3, 1) := by decide +kernel
theorem dL_told_84 : decode cL_told 84 = .ok (.iconst 4, 1) := by decide +kernel
theorem dL_told_85 : decode cL_told 85 = .ok (.iaload, 1) := by decide +kernel
theorem dL_told_86 : decode cL_told 86 = .ok (.invokevirtual 17, 3) := by decide +kernel
theorem dL_told_89 : decode cL_told 89 = .ok (.pop, 1) := by decide +kernel
theorem dL_told_90 : decode cL_told 90 = .ok (.iinc 2 20, 3) := by decide +kernel
theorem dL_told_93 : decode cL_told 93 = .ok (.goto (-91), 3) := by decide +kernel
theorem dL_told_96 : decode cL_told 96 = .ok (.aload_n 0, 1) := by decide +kernel
theorem dL_told_97 : decode cL_told 97 = .ok (.aload_n 1, 1) := by decide +kernel
theorem dL_told_98 : decode cL_told 98 = .ok (.invokevirtual 7, 3) := by decide +kernel
theorem dL_told_101 : decode cL_told 101 = .ok (.invokevirtual 23, 3) := by decide +kernel
theorem dL_told_104 : decode cL_told 104 = .ok (.pop, 1) := by decide +kernel
theorem dL_told_105 : decode cL_told 105 = .ok (.return_, 1) := by decide +kernel
theorem dL_isWhole_0 : decode cL_isWhole 0 = .ok (.aload_n 0, 1) := by decide +kernel
theorem dL_isWhole_1 : decode cL_isWhole 1 = .ok (.invokevirtual 27, 3) := by decide +kernel
theorem dL_isWhole_4 : decode cL_isWhole 4 = .ok (.aload_n 1, 1) := by decide +kernel
theorem dL_isWhole_5 : decode cL_isWhole 5 = .ok (.getfield 30, 3) := by decide +kernel
theorem dL_isWhole_8 : decode cL_isWhole 8 = .ok (.if_icmp .ne 127, 3) := by decide +kernel
theorem dL_isWhole_11 : decode cL_isWhole 11 = .ok (.aload_n 0, 1) := by decide +kernel
theorem dL_isWhole_12 : decode cL_isWhole 12 = .ok (.invokevirtual 35, 3) := by decide +kernel
theorem dL_isWhole_15 : decode cL_isWhole 15 = .ok (.aload_n 1, 1) := by decide +kernel
theorem dL_isWhole_16 : decode cL_isWhole 16 = .ok (.getfield 38, 3) := by decide +kernel
theorem dL_isWhole_19 : decode cL_isWhole 19 = .ok (.if_icmp .ne 116, 3) := by decide +kernel
theorem dL_isWhole_22 : decode cL_isWhole 22 = .ok (.aload_n 0, 1) := by decide +kernel
theorem dL_isWhole_23 : decode cL_isWhole 23 = .ok (.invokevirtual 40, 3) := by decide +kernel
theorem dL_isWhole_26 : decode cL_isWhole 26 = .ok (.aload_n 1, 1) := by decide +kernel
theorem dL_isWhole_27 : decode cL_isWhole 27 = .ok (.getfield 43, 3) := by decide +kernel
theorem dL_isWhole_30 : decode cL_isWhole 30 = .ok (.ifnonnull 7, 3) := by decide +kernel
theorem dL_isWhole_33 : decode cL_isWhole 33 = .ok (.iconst (-1), 1) := by decide +kernel
theorem dL_isWhole_34 : decode cL_isWhole 34 = .ok (.goto 10, 3) := by decide +kernel
theorem dL_isWhole_37 : decode cL_isWhole 37 = .ok (.aload_n 1, 1) := by decide +kernel
theorem dL_isWhole_38 : decode cL_isWhole 38 = .ok (.getfield 43, 3) := by decide +kernel
theorem dL_isWhole_41 : decode cL_isWhole 41 = .ok (.getfield 47, 3) := by decide +kernel
theorem dL_isWhole_44 : decode cL_isWhole 44 = .ok (.if_icmp .ne 91, 3) := by decide +kernel
theorem dL_isWhole_47 : decode cL_isWhole 47 = .ok (.aload_n 0, 1) := by decide +kernel
theorem dL_isWhole_48 : decode cL_isWhole 48 = .ok (.invokevirtual 52, 3) := by decide +kernel
theorem dL_isWhole_51 : decode cL_isWhole 51 = .ok (.aload_n 1, 1) := by decide +kernel
theorem dL_isWhole_52 : decode cL_isWhole 52 = .ok (.getfield 55, 3) := by decide +kernel
theorem dL_isWhole_55 : decode cL_isWhole 55 = .ok (.if_icmp .ne 80, 3) := by decide +kernel
theorem dL_isWhole_58 : decode cL_isWhole 58 = .ok (.aload_n 0, 1) := by decide +kernel
theorem dL_isWhole_59 : decode cL_isWhole 59 = .ok (.invokevirtual 58, 3) := by decide +kernel
theorem dL_isWhole_62 : decode cL_isWhole 62 = .ok (.aload_n 1, 1) := by decide +kernel
theorem dL_isWhole_63 : decode cL_isWhole 63 = .ok (.getfield 61, 3) := by decide +kernel
theorem dL_isWhole_66 : decode cL_isWhole 66 = .ok (.if_icmp .ne 69, 3) := by decide +kernel
theorem dL_isWhole_69 : decode cL_isWhole 69 = .ok (.aload_n 0, 1) := by decide +kernel
theorem dL_isWhole_70 : decode cL_isWhole 70 = .ok (.invokevirtual 64, 3) := by decide +kernel
theorem dL_isWhole_73 : decode cL_isWhole 73 = .ok (.aload_n 1, 1) := by decide +kernel
theorem dL_isWhole_74 : decode cL_isWhole 74 = .ok (.getfield 67, 3) := by decide +kernel
theorem dL_isWhole_77 : decode cL_isWhole 77 = .ok (.if_icmp .ne 58, 3) := by decide +kernel
theorem dL_isWhole_80 : decode cL_isWhole 80 = .ok (.aload_n 0, 1) := by decide +kernel
theorem dL_isWhole_81 : decode cL_isWhole 81 = .ok (.invokevirtual 70, 3) := by decide +kernel
theorem dL_isWhole_84 : decode cL_isWhole 84 = .ok (.aload_n 1, 1) := by decide +kernel
theorem dL_isWhole_85 : decode cL_isWhole 85 = .ok (.getfield 73, 3) := by decide +kernel
theorem dL_isWhole_88 : decode cL_isWhole 88 = .ok (.if_icmp .ne 47, 3) := by decide +kernel
theorem dL_isWhole_91 : decode cL_isWhole 91 = .ok (.aload_n 0, 1) := by decide +kernel
theorem dL_isWhole_92 : decode cL_isWhole 92 = .ok (.invokevirtual 76, 3) := by decide +kernel
theorem dL_isWhole_95 : decode cL_isWhole 95 = .ok (.aload_n 1, 1) := by decide +kernel
theorem dL_isWhole_96 : decode cL_isWhole 96 = .ok (.getfield 79, 3) := by decide +kernel
theorem dL_isWhole_99 : decode cL_isWhole 99 = .ok (.if_icmp .ne 36, 3) := by decide +kernel
theorem dL_isWhole_102 : decode cL_isWhole 102 = .ok (.aload_n 0, 1) := by decide +kernel
theorem dL_isWhole_103 : decode cL_isWhole 103 = .ok (.invokevirtual 82, 3) := by decide +kernel
theorem dL_isWhole_106 : decode cL_isWhole 106 = .ok (.aload_n 1, 1) := by decide +kernel
theorem dL_isWhole_107 : decode cL_isWhole 107 = .ok (.getfield 85, 3) := by decide +kernel
theorem dL_isWhole_110 : decode cL_isWhole 110 = .ok (.if_icmp .ne 25, 3) := by decide +kernel
theorem dL_isWhole_113 : decode cL_isWhole 113 = .ok (.aload_n 0, 1) := by decide +kernel
theorem dL_isWhole_114 : decode cL_isWhole 114 = .ok (.invokevirtual 88, 3) := by decide +kernel
theorem dL_isWhole_117 : decode cL_isWhole 117 = .ok (.aload_n 1, 1) := by decide +kernel
theorem dL_isWhole_118 : decode cL_isWhole 118 = .ok (.getfield 91, 3) := by decide +kernel
theorem dL_isWhole_121 : decode cL_isWhole 121 = .ok (.if_icmp .ne 14, 3) := by decide +kernel
theorem dL_isWhole_124 : decode cL_isWhole 124 = .ok (.aload_n 0, 1) := by decide +kernel
theorem dL_isWhole_125 : decode cL_isWhole 125 = .ok (.invokevirtual 94, 3) := by decide +kernel
theorem dL_isWhole_128 : decode cL_isWhole 128 = .ok (.aload_n 1, 1) := by decide +kernel
theorem dL_isWhole_129 : decode cL_isWhole 129 = .ok (.getfield 97, 3) := by decide +kernel
theorem dL_isWhole_132 : decode cL_isWhole 132 = .ok (.if_icmp .eq 5, 3) := by decide +kernel
theorem dL_isWhole_135 : decode cL_isWhole 135 = .ok (.iconst 0, 1) := by decide +kernel
theorem dL_isWhole_136 : decode cL_isWhole 136 = .ok (.ireturn, 1) := by decide +kernel
theorem dL_isWhole_137 : decode cL_isWhole 137 = .ok (.aload_n 1, 1) := by decide +kernel
theorem dL_isWhole_138 : decode cL_isWhole 138 = .ok (.getfield 100, 3) := by decide +kernel
theorem dL_isWhole_141 : decode cL_isWhole 141 = .ok (.invokeinterface 104 1, 5) := by decide +kernel
theorem dL_isWhole_146 : decode cL_isWhole 146 = .ok (.astore_n 2, 1) := by decide +kernel
theorem dL_isWhole_147 : decode cL_isWhole 147 = .ok (.aload_n 2, 1) := by decide +kernel
theorem dL_isWhole_148 : decode cL_isWhole 148 = .ok (.invokeinterface 110 1, 5) := by decide +kernel
theorem dL_isWhole_153 : decode cL_isWhole 153 = .ok (.ifCond .eq 78, 3) := by decide +kernel
theorem dL_isWhole_156 : decode cL_isWhole 156 = .ok (.aload_n 2, 1) := by decide +kernel
theorem dL_isWhole_157 : decode cL_isWhole 157 = .ok (.invokeinterface 116 1, 5) := by decide +kernel
theorem dL_isWhole_162 : decode cL_isWhole 162 = .ok (.checkcast 48, 3) := by decide +kernel
theorem dL_isWhole_165 : decode cL_isWhole 165 = .ok (.astore_n 3, 1) := by decide +kernel
theorem dL_isWhole_166 : decode cL_isWhole 166 = .ok (.aload_n 0, 1) := by decide +kernel
theorem dL_isWhole_167 : decode cL_isWhole 167 = .ok (.aload_n 3, 1) := by decide +kernel
theorem dL_isWhole_168 : decode cL_isWhole 168 = .ok (.getfield 47, 3) := by decide +kernel
theorem dL_isWhole_171 : decode cL_isWhole 171 = .ok (.invokevirtual 120, 3) := by decide +kernel
theorem dL_isWhole_174 : decode cL_isWhole 174 = .ok (.aload_n 3, 1) := by decide +kernel
theorem dL_isWhole_175 : decode cL_isWhole 175 = .ok (.getfield 124, 3) := by decide +kernel
theorem dL_isWhole_178 : decode cL_isWhole 178 = .ok (.if_icmp .ne 48, 3) := by decide +kernel
theorem dL_isWhole_181 : decode cL_isWhole 181 = .ok (.aload_n 0, 1) := by decide +kernel
theorem dL_isWhole_182 : decode cL_isWhole 182 = .ok (.aload_n 3, 1) := by decide +kernel
theorem dL_isWhole_183 : decode cL_isWhole 183 = .ok (.getfield 47, 3) := by decide +kernel
theorem dL_isWhole_186 : decode cL_isWhole 186 = .ok (.invokevirtual 127, 3) := by decide +kernel
theorem dL_isWhole_189 : decode cL_isWhole 189 = .ok (.aload_n 3, 1) := by decide +kernel
theorem dL_isWhole_190 : decode cL_isWhole 190 = .ok (.invokevirtual 130, 3) := by decide +kernel
theorem dL_isWhole_193 : decode cL_isWhole 193 = .ok (.if_icmp .ne 33, 3) := by decide +kernel
theorem dL_isWhole_196 : decode cL_isWhole 196 = .ok (.aload_n 0, 1) := by decide +kernel
theorem dL_isWhole_197 : decode cL_isWhole 197 = .ok (.aload_n 3, 1) := by decide +kernel
theorem dL_isWhole_198 : decode cL_isWhole 198 = .ok (.getfield 47, 3) := by decide +kernel
theorem dL_isWhole_201 : decode cL_isWhole 201 = .ok (.invokevirtual 133, 3) := by decide +kernel
theorem dL_isWhole_204 : decode cL_isWhole 204 = .ok (.aload_n 3, 1) := by decide +kernel
theorem dL_isWhole_205 : decode cL_isWhole 205 = .ok (.getfield 136, 3) := by decide +kernel
theorem dL_isWhole_208 : decode cL_isWhole 208 = .ok (.if_icmp .ne 18, 3) := by decide +kernel
theorem dL_isWhole_211 : decode cL_isWhole 211 = .ok (.aload_n 0, 1) := by decide +kernel
theorem dL_isWhole_212 : decode cL_isWhole 212 = .ok (.aload_n 3, 1) := by decide +kernel
theorem dL_isWhole_213 : decode cL_isWhole 213 = .ok (.getfield 47, 3) := by decide +kernel
theorem dL_isWhole_216 : decode cL_isWhole 216 = .ok (.invokevirtual 137, 3) := by decide +kernel
theorem dL_isWhole_219 : decode cL_isWhole 219 = .ok (.aload_n 3, 1) := by decide +kernel
theorem dL_isWhole_220 : decode cL_isWhole 220 = .ok (.getfield 140, 3) := by decide +kernel
theorem dL_isWhole_223 : decode cL_isWhole 223 = .ok (.if_icmp .eq 5, 3) := by decide +kernel
theorem dL_isWhole_226 : decode cL_isWhole 226 = .ok (.iconst 0, 1) := by decide +kernel
theorem dL_isWhole_227 : decode cL_isWhole 227 = .ok (.ireturn, 1) := by decide +kernel
theorem dL_isWhole_228 : decode cL_isWhole 228 = .ok (.goto (-81), 3) := by decide +kernel
theorem dL_isWhole_231 : decode cL_isWhole 231 = .ok (.aload_n 1, 1) := by decide +kernel
theorem dL_isWhole_232 : decode cL_isWhole 232 = .ok (.getfield 141, 3) := by decide +kernel
theorem dL_isWhole_235 : decode cL_isWhole 235 = .ok (.invokeinterface 104 1, 5) := by decide +kernel
theorem dL_isWhole_240 : decode cL_isWhole 240 = .ok (.astore_n 2, 1) := by decide +kernel
theorem dL_isWhole_241 : decode cL_isWhole 241 = .ok (.aload_n 2, 1) := by decide +kernel
theorem dL_isWhole_242 : decode cL_isWhole 242 = .ok (.invokeinterface 110 1, 5) := by decide +kernel
theorem dL_isWhole_247 : decode cL_isWhole 247 = .ok (.ifCond .eq 78, 3) := by decide +kernel
theorem dL_isWhole_250 : decode cL_isWhole 250 = .ok (.aload_n 2, 1) := by decide +kernel
theorem dL_isWhole_251 : decode cL_isWhole 251 = .ok (.invokeinterface 116 1, 5) := by decide +kernel
theorem dL_isWhole_256 : decode cL_isWhole 256 = .ok (.checkcast 144, 3) := by decide +kernel
theorem dL_isWhole_259 : decode cL_isWhole 259 = .ok (.astore_n 3, 1) := by decide +kernel
theorem dL_isWhole_260 : decode cL_isWhole 260 = .ok (.aload_n 0, 1) := by decide +kernel
theorem dL_isWhole_261 : decode cL_isWhole 261 = .ok (.aload_n 3, 1) := by decide +kernel
theorem dL_isWhole_262 : decode cL_isWhole 262 = .ok (.getfield 146, 3) := by decide +kernel
theorem dL_isWhole_265 : decode cL_isWhole 265 = .ok (.invokevirtual 147, 3) := by decide +kernel
theorem dL_isWhole_268 : decode cL_isWhole 268 = .ok (.aload_n 3, 1) := by decide +kernel
theorem dL_isWhole_269 : decode cL_isWhole 269 = .ok (.getfield 150, 3) := by decide +kernel
theorem dL_isWhole_272 : decode cL_isWhole 272 = .ok (.if_icmp .ne 48, 3) := by decide +kernel
theorem dL_isWhole_275 : decode cL_isWhole 275 = .ok (.aload_n 0, 1) := by decide +kernel
theorem dL_isWhole_276 : decode cL_isWhole 276 = .ok (.aload_n 3, 1) := by decide +kernel
theorem dL_isWhole_277 : decode cL_isWhole 277 = .ok (.getfield 146, 3) := by decide +kernel
theorem dL_isWhole_280 : decode cL_isWhole 280 = .ok (.invokevirtual 153, 3) := by decide +kernel
theorem dL_isWhole_283 : decode cL_isWhole 283 = .ok (.aload_n 3, 1) := by decide +kernel
theorem dL_isWhole_284 : decode cL_isWhole 284 = .ok (.getfield 156, 3) := by decide +kernel
theorem dL_isWhole_287 : decode cL_isWhole 287 = .ok (.if_icmp .ne 33, 3) := by decide +kernel
theorem dL_isWhole_290 : decode cL_isWhole 290 = .ok (.aload_n 0, 1) := by decide +kernel
theorem dL_isWhole_291 : decode cL_isWhole 291 = .ok (.aload_n 3, 1) := by decide +kernel
theorem dL_isWhole_292 : decode cL_isWhole 292 = .ok (.getfield 146, 3) := by decide +kernel
theorem dL_isWhole_295 : decode cL_isWhole 295 = .ok (.invokevirtual 159, 3) := by decide +kernel
theorem dL_isWhole_298 : decode cL_isWhole 298 = .ok (.aload_n 3, 1) := by decide +kernel
theorem dL_isWhole_299 : decode cL_isWhole 299 = .ok (.getfield 162, 3) := by decide +kernel
theorem dL_isWhole_302 : decode cL_isWhole 302 = .ok (.if_icmp .ne 18, 3) := by decide +kernel
theorem dL_isWhole_305 : decode cL_isWhole 305 = .ok (.aload_n 0, 1) := by decide +kernel
theorem dL_isWhole_306 : decode cL_isWhole 306 = .ok (.aload_n 3, 1) := by decide +kernel
theorem dL_isWhole_307 : decode cL_isWhole 307 = .ok (.getfield 146, 3) := by decide +kernel
theorem dL_isWhole_310 : decode cL_isWhole 310 = .ok (.invokevirtual 165, 3) := by decide +kernel
theorem dL_isWhole_313 : decode cL_isWhole 313 = .ok (.aload_n 3, 1) := by decide +kernel
theorem dL_isWhole_314 : decode cL_isWhole 314 = .ok (.getfield 168, 3) := by decide +kernel
theorem dL_isWhole_317 : decode cL_isWhole 317 = .ok (.if_icmp .eq 5, 3) := by decide +kernel
theorem dL_isWhole_320 : decode cL_isWhole 320 = .ok (.iconst 0, 1) := by decide +kernel
theorem dL_isWhole_321 : decode cL_isWhole 321 = .ok (.ireturn, 1) := by decide +kernel
theorem dL_isWhole_322 : decode cL_isWhole 322 = .ok (.goto (-81), 3) := by decide +kernel
theorem dL_isWhole_325 : decode cL_isWhole 325 = .ok (.iconst 1, 1) := by decide +kernel
theorem dL_isWhole_326 : decode cL_isWhole 326 = .ok (.ireturn, 1) := by decide +kernel
theorem dL_event_0 : decode cL_event 0 = .ok (.aload_n 1, 1) := by decide +kernel
theorem dL_event_1 : decode cL_event 1 = .ok (.getfield 141, 3) := by decide +kernel
theorem dL_event_4 : decode cL_event 4 = .ok (.iload_n 2, 1) := by decide +kernel
theorem dL_event_5 : decode cL_event 5 = .ok (.iconst 4, 1) := by decide +kernel
theorem dL_event_6 : decode cL_event 6 = .ok (.iconst 4, 1) := by decide +kernel
theorem dL_event_7 : decode cL_event 7 = .ok (.invokestatic 169, 3) := by decide +kernel
theorem dL_event_10 : decode cL_event 10 = .ok (.aload_n 1, 1) := by decide +kernel
theorem dL_event_11 : decode cL_event 11 = .ok (.getfield 141, 3) := by decide +kernel
theorem dL_event_14 : decode cL_event 14 = .ok (.invokeinterface 175 1, 5) := by decide +kernel
theorem dL_event_19 : decode cL_event 19 = .ok (.irem, 1) := by decide +kernel
theorem dL_event_20 : decode cL_event 20 = .ok (.invokeinterface 178 2, 5) := by decide +kernel
theorem dL_event_25 : decode cL_event 25 = .ok (.checkcast 144, 3) := by decide +kernel
theorem dL_event_28 : decode cL_event 28 = .ok (.astore_n 3, 1) := by decide +kernel
theorem dL_event_29 : decode cL_event 29 = .ok (.iconst 1, 1) := by decide +kernel
theorem dL_event_30 : decode cL_event 30 = .ok (.iload_n 2, 1) := by decide +kernel
theorem dL_event_31 : decode cL_event 31 = .ok (.bipush 8, 2) := by decide +kernel
theorem dL_event_33 : decode cL_event 33 = .ok (.iconst 4, 1) := by decide +kernel
theorem dL_event_34 : decode cL_event 34 = .ok (.invokestatic 169, 3) := by decide +kernel
theorem dL_event_37 : decode cL_event 37 = .ok (.iadd, 1) := by decide +kernel
theorem dL_event_38 : decode cL_event 38 = .ok (.istore 4, 2) := by decide +kernel
theorem dL_event_40 : decode cL_event 40 = .ok (.iload_n 2, 1) := by decide +kernel
theorem dL_event_41 : decode cL_event 41 = .ok (.iconst 0, 1) := by decide +kernel
theorem dL_event_42 : decode cL_event 42 = .ok (.iconst 4, 1) := by decide +kernel
theorem dL_event_43 : decode cL_event 43 = .ok (.invokestatic 169, 3) := by decide +kernel
theorem dL_event_46 : decode cL_event 46 = .ok (.tableswitch 334 0 6 #[42, 42, 145, 145, 212, 250, 300], 42) := by decide +kernel
theorem dL_event_88 : decode cL_event 88 = .ok (.iconst 0, 1) := by decide +kernel
theorem dL_event_89 : decode cL_event 89 = .ok (.istore 5, 2) := by decide +kernel
theorem dL_event_91 : decode cL_event 91 = .ok (.aload_n 3, 1) := by decide +kernel
theorem dL_event_92 : decode cL_event 92 = .ok (.aload_n 3, 1) := by decide +kernel
theorem dL_event_93 : decode cL_event 93 = .ok (.getfield 162, 3) := by decide +kernel
theorem dL_event_96 : decode cL_event 96 = .ok (.ifCond .ne 7, 3) := by decide +kernel
theorem dL_event_99 : decode cL_event 99 = .ok (.iconst 1, 1) := by decide +kernel
theorem dL_event_100 : decode cL_event 100 = .ok (.goto 4, 3) := by decide +kernel
theorem dL_event_103 : decode cL_event 103 = .ok (.iconst 0, 1) := by decide +kernel
theorem dL_event_104 : decode cL_event 104 = .ok (.putfield 162, 3) := by decide +kernel
theorem dL_event_107 : decode cL_event 107 = .ok (.aload_n 1, 1) := by decide +kernel
theorem dL_event_108 : decode cL_event 108 = .ok (.getfield 141, 3) := by decide +kernel
theorem dL_event_111 : decode cL_event 111 = .ok (.invokeinterface 104 1, 5) := by decide +kernel
theorem dL_event_116 : decode cL_event 116 = .ok (.astore 6, 2) := by decide +kernel
theorem dL_event_118 : decode cL_event 118 = .ok (.aload 6, 2) := by decide +kernel
theorem dL_event_120 : decode cL_event 120 = .ok (.invokeinterface 110 1, 5) := by decide +kernel
theorem dL_event_125 : decode cL_event 125 = .ok (.ifCond .eq 29, 3) := by decide +kernel
theorem dL_event_128 : decode cL_event 128 = .ok (.aload 6, 2) := by decide +kernel
theorem dL_event_130 : decode cL_event 130 = .ok (.invokeinterface 116 1, 5) := by decide +kernel
theorem dL_event_135 : decode cL_event 135 = .ok (.checkcast 144, 3) := by decide +kernel
theorem dL_event_138 : decode cL_event 138 = .ok (.astore 7, 2) := by decide +kernel
theorem dL_event_140 : decode cL_event 140 = .ok (.aload 7, 2) := by decide +kernel
theorem dL_event_142 : decode cL_event 142 = .ok (.getfield 162, 3) := by decide +kernel
theorem dL_event_145 : decode cL_event 145 = .ok (.ifCond .eq 6, 3) := by decide +kernel
theorem dL_event_148 : decode cL_event 148 = .ok (.iinc 5 1, 3) := by decide +kernel
theorem dL_event_151 : decode cL_event 151 = .ok (.goto (-33), 3) := by decide +kernel
theorem dL_event_154 : decode cL_event 154 = .ok (.aload_n 3, 1) := by decide +kernel
theorem dL_event_155 : decode cL_event 155 = .ok (.getfield 162, 3) := by decide +kernel
theorem dL_event_158 : decode cL_event 158 = .ok (.ifCond .eq 14, 3) := by decide +kernel
theorem dL_event_161 : decode cL_event 161 = .ok (.aload_n 0, 1) := by decide +kernel
theorem dL_event_162 : decode cL_event 162 = .ok (.aload_n 3, 1) := by decide +kernel
theorem dL_event_163 : decode cL_event 163 = .ok (.getfield 146, 3) := by decide +kernel
theorem dL_event_166 : decode cL_event 166 = .ok (.invokevirtual 182, 3) := by decide +kernel
theorem dL_event_169 : decode cL_event 169 = .ok (.goto 11, 3) := by decide +kernel
theorem dL_event_172 : decode cL_event 172 = .ok (.aload_n 0, 1) := by decide +kernel
theorem dL_event_173 : decode cL_event 173 = .ok (.aload_n 3, 1) := by decide +kernel
theorem dL_event_174 : decode cL_event 174 = .ok (.getfield 146, 3) := by decide +kernel
theorem dL_event_177 : decode cL_event 177 = .ok (.invokevirtual 185, 3) := by decide +kernel
theorem dL_event_180 : decode cL_event 180 = .ok (.iload 5, 2) := by decide +kernel
theorem dL_event_182 : decode cL_event 182 = .ok (.if_icmp .ne 7, 3) := by decide +kernel
theorem dL_event_185 : decode cL_event 185 = .ok (.iconst 1, 1) := by decide +kernel
theorem dL_event_186 : decode cL_event 186 = .ok (.goto 4, 3) := by decide +kernel
theorem dL_event_189 : decode cL_event 189 = .ok (.iconst 0, 1) := by decide +kernel
theorem dL_event_190 : decode cL_event 190 = .ok (.ireturn, 1) := by decide +kernel
theorem dL_event_191 : decode cL_event 191 = .ok (.aload_n 3, 1) := by decide +kernel
theorem dL_event_192 : decode cL_event 192 = .ok (.getfield 156, 3) := by decide +kernel
theorem dL_event_195 : decode cL_event 195 = .ok (.iload 4, 2) := by decide +kernel
theorem dL_event_197 : decode cL_event 197 = .ok (.iadd, 1) := by decide +kernel
theorem dL_event_198 : decode cL_event 198 = .ok (.bipush 99, 2) := by decide +kernel
theorem dL_event_200 : decode cL_event 200 = .ok (.if_icmp .le 24, 3) := by decide +kernel
theorem dL_event_203 : decode cL_event 203 = .ok (.aload_n 0, 1) := by decide +kernel
theorem dL_event_204 : decode cL_event 204 = .ok (.aload_n 3, 1) := by decide +kernel
theorem dL_event_205 : decode cL_event 205 = .ok (.getfield 146, 3) := by decide +kernel
theorem dL_event_208 : decode cL_event 208 = .ok (.invokevirtual 153, 3) := by decide +kernel
theorem dL_event_211 : decode cL_event 211 = .ok (.aload_n 3, 1) := by decide +kernel
theorem dL_event_212 : decode cL_event 212 = .ok (.getfield 156, 3) := by decide +kernel
theorem dL_event_215 : decode cL_event 215 = .ok (.if_icmp .ne 7, 3) := by decide +kernel
theorem dL_event_218 : decode cL_event 218 = .ok (.iconst 1, 1) := by decide +kernel
theorem dL_event_219 : decode cL_event 219 = .ok (.goto 4, 3) := by decide +kernel
theorem dL_event_222 : decode cL_event 222 = .ok (.iconst 0, 1) := by decide +kernel
theorem dL_event_223 : decode cL_event 223 = .ok (.ireturn, 1) := by decide +kernel
theorem dL_event_224 : decode cL_event 224 = .ok (.aload_n 3, 1) := by decide +kernel
theorem dL_event_225 : decode cL_event 225 = .ok (.dup, 1) := by decide +kernel
theorem dL_event_226 : decode cL_event 226 = .ok (.getfield 156, 3) := by decide +kernel
theorem dL_event_229 : decode cL_event 229 = .ok (.iload 4, 2) := by decide +kernel
theorem dL_event_231 : decode cL_event 231 = .ok (.iadd, 1) := by decide +kernel
theorem dL_event_232 : decode cL_event 232 = .ok (.putfield 156, 3) := by decide +kernel
theorem dL_event_235 : decode cL_event 235 = .ok (.aload_n 0, 1) := by decide +kernel
theorem dL_event_236 : decode cL_event 236 = .ok (.aload_n 3, 1) := by decide +kernel
theorem dL_event_237 : decode cL_event 237 = .ok (.getfield 146, 3) := by decide +kernel
theorem dL_event_240 : decode cL_event 240 = .ok (.iload 4, 2) := by decide +kernel
theorem dL_event_242 : decode cL_event 242 = .ok (.invokevirtual 188, 3) := by decide +kernel
theorem dL_event_245 : decode cL_event 245 = .ok (.aload_n 3, 1) := by decide +kernel
theorem dL_event_246 : decode cL_event 246 = .ok (.getfield 156, 3) := by decide +kernel
theorem dL_event_249 : decode cL_event 249 = .ok (.if_icmp .ne 7, 3) := by decide +kernel
theorem dL_event_252 : decode cL_event 252 = .ok (.iconst 1, 1) := by decide +kernel
theorem dL_event_253 : decode cL_event 253 = .ok (.goto 4, 3) := by decide +kernel
theorem dL_event_256 : decode cL_event 256 = .ok (.iconst 0, 1) := by decide +kernel
theorem dL_event_257 : decode cL_event 257 = .ok (.ireturn, 1) := by decide +kernel
theorem dL_event_258 : decode cL_event 258 = .ok (.aload_n 3, 1) := by decide +kernel
theorem dL_event_259 : decode cL_event 259 = .ok (.dup, 1) := by decide +kernel
theorem dL_event_260 : decode cL_event 260 = .ok (.getfield 150, 3) := by decide +kernel
theorem dL_event_263 : decode cL_event 263 = .ok (.iconst 5, 1) := by decide +kernel
theorem dL_event_264 : decode cL_event 264 = .ok (.iload 4, 2) := by decide +kernel
theorem dL_event_266 : decode cL_event 266 = .ok (.imul, 1) := by decide +kernel
theorem dL_event_267 : decode cL_event 267 = .ok (.iadd, 1) := by decide +kernel
theorem dL_event_268 : decode cL_event 268 = .ok (.putfield 150, 3) := by decide +kernel
theorem dL_event_271 : decode cL_event 271 = .ok (.aload_n 0, 1) := by decide +kernel
theorem dL_event_272 : decode cL_event 272 = .ok (.aload_n 3, 1) := by decide +kernel
theorem dL_event_273 : decode cL_event 273 = .ok (.getfield 146, 3) := by decide +kernel
theorem dL_event_276 : decode cL_event 276 = .ok (.iconst 5, 1) := by decide +kernel
theorem dL_event_277 : decode cL_event 277 = .ok (.iload 4, 2) := by decide +kernel
theorem dL_event_279 : decode cL_event 279 = .ok (.imul, 1) := by decide +kernel
theorem dL_event_280 : decode cL_event 280 = .ok (.invokevirtual 192, 3) := by decide +kernel
theorem dL_event_283 : decode cL_event 283 = .ok (.aload_n 3, 1) := by decide +kernel
theorem dL_event_284 : decode cL_event 284 = .ok (.getfield 150, 3) := by decide +kernel
theorem dL_event_287 : decode cL_event 287 = .ok (.if_icmp .ne 7, 3) := by decide +kernel
theorem dL_event_290 : decode cL_event 290 = .ok (.iconst 1, 1) := by decide +kernel
theorem dL_event_291 : decode cL_event 291 = .ok (.goto 4, 3) := by decide +kernel
theorem dL_event_294 : decode cL_event 294 = .ok (.iconst 0, 1) := by decide +kernel
theorem dL_event_295 : decode cL_event 295 = .ok (.ireturn, 1) := by decide +kernel
theorem dL_event_296 : decode cL_event 296 = .ok (.aload_n 1, 1) := by decide +kernel
theorem dL_event_297 : decode cL_event 297 = .ok (.getfield 43, 3) := by decide +kernel
theorem dL_event_300 : decode cL_event 300 = .ok (.ifnonnull 17, 3) := by decide +kernel
theorem dL_event_303 : decode cL_event 303 = .ok (.aload_n 0, 1) := by decide +kernel
theorem dL_event_304 : decode cL_event 304 = .ok (.invokevirtual 40, 3) := by decide +kernel
theorem dL_event_307 : decode cL_event 307 = .ok (.iconst (-1), 1) := by decide +kernel
theorem dL_event_308 : decode cL_event 308 = .ok (.if_icmp .ne 7, 3) := by decide +kernel
theorem dL_event_311 : decode cL_event 311 = .ok (.iconst 1, 1) := by decide +kernel
theorem dL_event_312 : decode cL_event 312 = .ok (.goto 4, 3) := by decide +kernel
theorem dL_event_315 : decode cL_event 315 = .ok (.iconst 0, 1) := by decide +kernel
theorem dL_event_316 : decode cL_event 316 = .ok (.ireturn, 1) := by decide +kernel
theorem dL_event_317 : decode cL_event 317 = .ok (.aload_n 1, 1) := by decide +kernel
theorem dL_event_318 : decode cL_event 318 = .ok (.getfield 43, 3) := by decide +kernel
theorem dL_event_321 : decode cL_event 321 = .ok (.getfield 47, 3) := by decide +kernel
theorem dL_event_324 : decode cL_event 324 = .ok (.istore 5, 2) := by decide +kernel
theorem dL_event_326 : decode cL_event 326 = .ok (.aload_n 1, 1) := by decide +kernel
theorem dL_event_327 : decode cL_event 327 = .ok (.aconst_null, 1) := by decide +kernel
theorem dL_event_328 : decode cL_event 328 = .ok (.putfield 43, 3) := by decide +kernel
theorem dL_event_331 : decode cL_event 331 = .ok (.aload_n 0, 1) := by decide +kernel
theorem dL_event_332 : decode cL_event 332 = .ok (.invokevirtual 195, 3) := by decide +kernel
theorem dL_event_335 : decode cL_event 335 = .ok (.iload 5, 2) := by decide +kernel
theorem dL_event_337 : decode cL_event 337 = .ok (.if_icmp .ne 7, 3) := by decide +kernel
theorem dL_event_340 : decode cL_event 340 = .ok (.iconst 1, 1) := by decide +kernel
theorem dL_event_341 : decode cL_event 341 = .ok (.goto 4, 3) := by decide +kernel
theorem dL_event_344 : decode cL_event 344 = .ok (.iconst 0, 1) := by decide +kernel
theorem dL_event_345 : decode cL_event 345 = .ok (.ireturn, 1) := by decide +kernel
theorem dL_event_346 : decode cL_event 346 = .ok (.aload_n 1, 1) := by decide +kernel
theorem dL_event_347 : decode cL_event 347 = .ok (.getfield 38, 3) := by decide +kernel
theorem dL_event_350 : decode cL_event 350 = .ok (.istore 5, 2) := by decide +kernel
theorem dL_event_352 : decode cL_event 352 = .ok (.aload_n 1, 1) := by decide +kernel
theorem dL_event_353 : decode cL_event 353 = .ok (.iload 4, 2) := by decide +kernel
theorem dL_event_355 : decode cL_event 355 = .ok (.bipush 10, 2) := by decide +kernel
theorem dL_event_357 : decode cL_event 357 = .ok (.irem, 1) := by decide +kernel
theorem dL_event_358 : decode cL_event 358 = .ok (.putfield 38, 3) := by decide +kernel
theorem dL_event_361 : decode cL_event 361 = .ok (.aload_n 0, 1) := by decide +kernel
theorem dL_event_362 : decode cL_event 362 = .ok (.aload_n 1, 1) := by decide +kernel
theorem dL_event_363 : decode cL_event 363 = .ok (.getfield 38, 3) := by decide +kernel
theorem dL_event_366 : decode cL_event 366 = .ok (.invokevirtual 198, 3) := by decide +kernel
theorem dL_event_369 : decode cL_event 369 = .ok (.iload 5, 2) := by decide +kernel
theorem dL_event_371 : decode cL_event 371 = .ok (.if_icmp .ne 7, 3) := by decide +kernel
theorem dL_event_374 : decode cL_event 374 = .ok (.iconst 1, 1) := by decide +kernel
theorem dL_event_375 : decode cL_event 375 = .ok (.goto 4, 3) := by decide +kernel
theorem dL_event_378 : decode cL_event 378 = .ok (.iconst 0, 1) := by decide +kernel
theorem dL_event_379 : decode cL_event 379 = .ok (.ireturn, 1) := by decide +kernel
theorem dL_event_380 : decode cL_event 380 = .ok (.aload_n 1, 1) := by decide +kernel
theorem dL_event_381 : decode cL_event 381 = .ok (.getfield 67, 3) := by decide +kernel
theorem dL_event_384 : decode cL_event 384 = .ok (.istore 5, 2) := by decide +kernel
theorem dL_event_386 : decode cL_event 386 = .ok (.iload 4, 2) := by decide +kernel
theorem dL_event_388 : decode cL_event 388 = .ok (.bipush 11, 2) := by decide +kernel
theorem dL_event_390 : decode cL_event 390 = .ok (.if_icmp .ge 7, 3) := by decide +kernel
theorem dL_event_393 : decode cL_event 393 = .ok (.iconst 1, 1) := by decide +kernel
theorem dL_event_394 : decode cL_event 394 = .ok (.goto 8, 3) := by decide +kernel
theorem dL_event_397 : decode cL_event 397 = .ok (.iload 4, 2) := by decide +kernel
theorem dL_event_399 : decode cL_event 399 = .ok (.bipush 8, 2) := by decide +kernel
theorem dL_event_401 : decode cL_event 401 = .ok (.isub, 1) := by decide +kernel
theorem dL_event_402 : decode cL_event 402 = .ok (.istore 6, 2) := by decide +kernel
theorem dL_event_404 : decode cL_event 404 = .ok (.iconst 0, 1) := by decide +kernel
theorem dL_event_405 : decode cL_event 405 = .ok (.istore 7, 2) := by decide +kernel
theorem dL_event_407 : decode cL_event 407 = .ok (.iload 7, 2) := by decide +kernel
theorem dL_event_409 : decode cL_event 409 = .ok (.iload 6, 2) := by decide +kernel
theorem dL_event_411 : decode cL_event 411 = .ok (.if_icmp .ge 13, 3) := by decide +kernel
theorem dL_event_414 : decode cL_event 414 = .ok (.aload_n 1, 1) := by decide +kernel
theorem dL_event_415 : decode cL_event 415 = .ok (.invokevirtual 201, 3) := by decide +kernel
theorem dL_event_418 : decode cL_event 418 = .ok (.iinc 7 1, 3) := by decide +kernel
theorem dL_event_421 : decode cL_event 421 = .ok (.goto (-14), 3) := by decide +kernel
theorem dL_event_424 : decode cL_event 424 = .ok (.aload_n 0, 1) := by decide +kernel
theorem dL_event_425 : decode cL_event 425 = .ok (.iload 6, 2) := by decide +kernel
theorem dL_event_427 : decode cL_event 427 = .ok (.invokevirtual 204, 3) := by decide +kernel
theorem dL_event_430 : decode cL_event 430 = .ok (.aload_n 1, 1) := by decide +kernel
theorem dL_event_431 : decode cL_event 431 = .ok (.getfield 67, 3) := by decide +kernel
theorem dL_event_434 : decode cL_event 434 = .ok (.iload 5, 2) := by decide +kernel
theorem dL_event_436 : decode cL_event 436 = .ok (.isub, 1) := by decide +kernel
theorem dL_event_437 : decode cL_event 437 = .ok (.if_icmp .ne 7, 3) := by decide +kernel
theorem dL_event_440 : decode cL_event 440 = .ok (.iconst 1, 1) := by decide +kernel
theorem dL_event_441 : decode cL_event 441 = .ok (.goto 4, 3) := by decide +kernel
theorem dL_event_444 : decode cL_event 444 = .ok (.iconst 0, 1) := by decide +kernel
theorem dL_event_445 : decode cL_event 445 = .ok (.ireturn, 1) := by decide +kernel
theorem dL_law_0 : decode cL_law 0 = .ok (.new 18, 3) := by decide +kernel
theorem dL_law_3 : decode cL_law 3 = .ok (.dup, 1) := by decide +kernel
theorem dL_law_4 : decode cL_law 4 = .ok (.invokespecial 207, 3) := by decide +kernel
theorem dL_law_7 : decode cL_law 7 = .ok (.astore_n 1, 1) := by decide +kernel
theorem dL_law_8 : decode cL_law 8 = .ok (.new 31, 3) := by decide +kernel
theorem dL_law_11 : decode cL_law 11 = .ok (.dup, 1) := by decide +kernel
theorem dL_law_12 : decode cL_law 12 = .ok (.invokespecial 208, 3) := by decide +kernel
theorem dL_law_15 : decode cL_law 15 = .ok (.astore_n 2, 1) := by decide +kernel
theorem dL_law_16 : decode cL_law 16 = .ok (.aload_n 0, 1) := by decide +kernel
theorem dL_law_17 : decode cL_law 17 = .ok (.iconst 0, 1) := by decide +kernel
theorem dL_law_18 : decode cL_law 18 = .ok (.invokestatic 209, 3) := by decide +kernel
theorem dL_law_21 : decode cL_law 21 = .ok (.istore_n 3, 1) := by decide +kernel
theorem dL_law_22 : decode cL_law 22 = .ok (.new 213, 3) := by decide +kernel
theorem dL_law_25 : decode cL_law 25 = .ok (.dup, 1) := by decide +kernel
theorem dL_law_26 : decode cL_law 26 = .ok (.invokespecial 215, 3) := by decide +kernel
theorem dL_law_29 : decode cL_law 29 = .ok (.astore 4, 2) := by decide +kernel
theorem dL_law_31 : decode cL_law 31 = .ok (.iconst 1, 1) := by decide +kernel
theorem dL_law_32 : decode cL_law 32 = .ok (.iload_n 3, 1) := by decide +kernel
theorem dL_law_33 : decode cL_law 33 = .ok (.iconst 0, 1) := by decide +kernel
theorem dL_law_34 : decode cL_law 34 = .ok (.iconst 2, 1) := by decide +kernel
theorem dL_law_35 : decode cL_law 35 = .ok (.invokestatic 169, 3) := by decide +kernel
theorem dL_law_38 : decode cL_law 38 = .ok (.iadd, 1) := by decide +kernel
theorem dL_law_39 : decode cL_law 39 = .ok (.istore 5, 2) := by decide +kernel
theorem dL_law_41 : decode cL_law 41 = .ok (.iconst 0, 1) := by decide +kernel
theorem dL_law_42 : decode cL_law 42 = .ok (.istore 6, 2) := by decide +kernel
theorem dL_law_44 : decode cL_law 44 = .ok (.iload 6, 2) := by decide +kernel
theorem dL_law_46 : decode cL_law 46 = .ok (.iload 5, 2) := by decide +kernel
theorem dL_law_48 : decode cL_law 48 = .ok (.if_icmp .ge 129, 3) := by decide +kernel
theorem dL_law_51 : decode cL_law 51 = .ok (.aload_n 0, 1) := by decide +kernel
theorem dL_law_52 : decode cL_law 52 = .ok (.iconst 1, 1) := by decide +kernel
theorem dL_law_53 : decode cL_law 53 = .ok (.iload 6, 2) := by decide +kernel
theorem dL_law_55 : decode cL_law 55 = .ok (.iadd, 1) := by decide +kernel
theorem dL_law_56 : decode cL_law 56 = .ok (.invokestatic 209, 3) := by decide +kernel
theorem dL_law_59 : decode cL_law 59 = .ok (.istore 7, 2) := by decide +kernel
theorem dL_law_61 : decode cL_law 61 = .ok (.new 48, 3) := by decide +kernel
theorem dL_law_64 : decode cL_law 64 = .ok (.dup, 1) := by decide +kernel
theorem dL_law_65 : decode cL_law 65 = .ok (.invokespecial 216, 3) := by decide +kernel
theorem dL_law_68 : decode cL_law 68 = .ok (.astore 8, 2) := by decide +kernel
theorem dL_law_70 : decode cL_law 70 = .ok (.aload 8, 2) := by decide +kernel
theorem dL_law_72 : decode cL_law 72 = .ok (.iload 6, 2) := by decide +kernel
theorem dL_law_74 : decode cL_law 74 = .ok (.putfield 47, 3) := by decide +kernel
theorem dL_law_77 : decode cL_law 77 = .ok (.aload 8, 2) := by decide +kernel
theorem dL_law_79 : decode cL_law 79 = .ok (.iconst 1, 1) := by decide +kernel
theorem dL_law_80 : decode cL_law 80 = .ok (.iload 7, 2) := by decide +kernel
theorem dL_law_82 : decode cL_law 82 = .ok (.iconst 0, 1) := by decide +kernel
theorem dL_law_83 : decode cL_law 83 = .ok (.iconst 3, 1) := by decide +kernel
theorem dL_law_84 : decode cL_law 84 = .ok (.invokestatic 169, 3) := by decide +kernel
theorem dL_law_87 : decode cL_law 87 = .ok (.iadd, 1) := by decide +kernel
theorem dL_law_88 : decode cL_law 88 = .ok (.putfield 217, 3) := by decide +kernel
theorem dL_law_91 : decode cL_law 91 = .ok (.aload 8, 2) := by decide +kernel
theorem dL_law_93 : decode cL_law 93 = .ok (.iload 7, 2) := by decide +kernel
theorem dL_law_95 : decode cL_law 95 = .ok (.iconst 3, 1) := by decide +kernel
theorem dL_law_96 : decode cL_law 96 = .ok (.iconst 1, 1) := by decide +kernel
theorem dL_law_97 : decode cL_law 97 = .ok (.invokestatic 169, 3) := by decide +kernel
theorem dL_law_100 : decode cL_law 100 = .ok (.ifCond .ne 7, 3) := by decide +kernel
theorem dL_law_103 : decode cL_law 103 = .ok (.iconst 1, 1) := by decide +kernel
theorem dL_law_104 : decode cL_law 104 = .ok (.goto 4, 3) := by decide +kernel
theorem dL_law_107 : decode cL_law 107 = .ok (.iconst 0, 1) := by decide +kernel
theorem dL_law_108 : decode cL_law 108 = .ok (.putfield 220, 3) := by decide +kernel
theorem dL_law_111 : decode cL_law 111 = .ok (.aload_n 2, 1) := by decide +kernel
theorem dL_law_112 : decode cL_law 112 = .ok (.getfield 100, 3) := by decide +kernel
theorem dL_law_115 : decode cL_law 115 = .ok (.aload 8, 2) := by decide +kernel
theorem dL_law_117 : decode cL_law 117 = .ok (.invokeinterface 223 2, 5) := by decide +kernel
theorem dL_law_122 : decode cL_law 122 = .ok (.pop, 1) := by decide +kernel
theorem dL_law_123 : decode cL_law 123 = .ok (.aload 4, 2) := by decide +kernel
theorem dL_law_125 : decode cL_law 125 = .ok (.ldc 227, 2) := by decide +kernel
theorem dL_law_127 : decode cL_law 127 = .ok (.invokevirtual 229, 3) := by decide +kernel
theorem dL_law_130 : decode cL_law 130 = .ok (.bipush 97, 2) := by decide +kernel
theorem dL_law_132 : decode cL_law 132 = .ok (.iload 6, 2) := by decide +kernel
theorem dL_law_134 : decode cL_law 134 = .ok (.iadd, 1) := by decide +kernel
theorem dL_law_135 : decode cL_law 135 = .ok (.i2c, 1) := by decide +kernel
theorem dL_law_136 : decode cL_law 136 = .ok (.invokevirtual 233, 3) := by decide +kernel
theorem dL_law_139 : decode cL_law 139 = .ok (.bipush 32, 2) := by decide +kernel
theorem dL_law_141 : decode cL_law 141 = .ok (.invokevirtual 233, 3) := by decide +kernel
theorem dL_law_144 : decode cL_law 144 = .ok (.aload 8, 2) := by decide +kernel
theorem dL_law_146 : decode cL_law 146 = .ok (.getfield 217, 3) := by decide +kernel
theorem dL_law_149 : decode cL_law 149 = .ok (.invokevirtual 236, 3) := by decide +kernel
theorem dL_law_152 : decode cL_law 152 = .ok (.aload 8, 2) := by decide +kernel
theorem dL_law_154 : decode cL_law 154 = .ok (.getfield 220, 3) := by decide +kernel
theorem dL_law_157 : decode cL_law 157 = .ok (.ifCond .eq 8, 3) := by decide +kernel
theorem dL_law_160 : decode cL_law 160 = .ok (.ldc 239, 2) := by decide +kernel
theorem dL_law_162 : decode cL_law 162 = .ok (.goto 5, 3) := by decide +kernel
theorem dL_law_165 : decode cL_law 165 = .ok (.ldc 241, 2) := by decide +kernel
theorem dL_law_167 : decode cL_law 167 = .ok (.invokevirtual 229, 3) := by decide +kernel
theorem dL_law_170 : decode cL_law 170 = .ok (.pop, 1) := by decide +kernel
theorem dL_law_171 : decode cL_law 171 = .ok (.iinc 6 1, 3) := by decide +kernel
theorem dL_law_174 : decode cL_law 174 = .ok (.goto (-130), 3) := by decide +kernel
theorem dL_law_177 : decode cL_law 177 = .ok (.iconst 1, 1) := by decide +kernel
theorem dL_law_178 : decode cL_law 178 = .ok (.iload_n 3, 1) := by decide +kernel
theorem dL_law_179 : decode cL_law 179 = .ok (.iconst 2, 1) := by decide +kernel
theorem dL_law_180 : decode cL_law 180 = .ok (.iconst 2, 1) := by decide +kernel
theorem dL_law_181 : decode cL_law 181 = .ok (.invokestatic 169, 3) := by decide +kernel
theorem dL_law_184 : decode cL_law 184 = .ok (.iadd, 1) := by decide +kernel
theorem dL_law_185 : decode cL_law 185 = .ok (.istore 6, 2) := by decide +kernel
theorem dL_law_187 : decode cL_law 187 = .ok (.iconst 0, 1) := by decide +kernel
theorem dL_law_188 : decode cL_law 188 = .ok (.istore 7, 2) := by decide +kernel
theorem dL_law_190 : decode cL_law 190 = .ok (.iload 7, 2) := by decide +kernel
theorem dL_law_192 : decode cL_law 192 = .ok (.iload 6, 2) := by decide +kernel
theorem dL_law_194 : decode cL_law 194 = .ok (.if_icmp .ge 156, 3) := by decide +kernel
theorem dL_law_197 : decode cL_law 197 = .ok (.aload_n 0, 1) := by decide +kernel
theorem dL_law_198 : decode cL_law 198 = .ok (.iconst 5, 1) := by decide +kernel
theorem dL_law_199 : decode cL_law 199 = .ok (.iload 7, 2) := by decide +kernel
theorem dL_law_201 : decode cL_law 201 = .ok (.iadd, 1) := by decide +kernel
theorem dL_law_202 : decode cL_law 202 = .ok (.invokestatic 209, 3) := by decide +kernel
theorem dL_law_205 : decode cL_law 205 = .ok (.istore 8, 2) := by decide +kernel
theorem dL_law_207 : decode cL_law 207 = .ok (.new 144, 3) := by decide +kernel
theorem dL_law_210 : decode cL_law 210 = .ok (.dup, 1) := by decide +kernel
theorem dL_law_211 : decode cL_law 211 = .ok (.invokespecial 243, 3) := by decide +kernel
theorem dL_law_214 : decode cL_law 214 = .ok (.astore 9, 2) := by decide +kernel
theorem dL_law_216 : decode cL_law 216 = .ok (.aload 9, 2) := by decide +kernel
theorem dL_law_218 : decode cL_law 218 = .ok (.iload 7, 2) := by decide +kernel
theorem dL_law_220 : decode cL_law 220 = .ok (.putfield 146, 3) := by decide +kernel
theorem dL_law_223 : decode cL_law 223 = .ok (.aload 9, 2) := by decide +kernel
theorem dL_law_225 : decode cL_law 225 = .ok (.iload 8, 2) := by decide +kernel
theorem dL_law_227 : decode cL_law 227 = .ok (.iconst 0, 1) := by decide +kernel
theorem dL_law_228 : decode cL_law 228 = .ok (.bipush 7, 2) := by decide +kernel
theorem dL_law_230 : decode cL_law 230 = .ok (.invokestatic 169, 3) := by decide +kernel
theorem dL_law_233 : decode cL_law 233 = .ok (.putfield 150, 3) := by decide +kernel
theorem dL_law_236 : decode cL_law 236 = .ok (.aload 9, 2) := by decide +kernel
theorem dL_law_238 : decode cL_law 238 = .ok (.iload 8, 2) := by decide +kernel
theorem dL_law_240 : decode cL_law 240 = .ok (.bipush 7, 2) := by decide +kernel
theorem dL_law_242 : decode cL_law 242 = .ok (.bipush 6, 2) := by decide +kernel
theorem dL_law_244 : decode cL_law 244 = .ok (.invokestatic 169, 3) := by decide +kernel
theorem dL_law_247 : decode cL_law 247 = .ok (.putfield 156, 3) := by decide +kernel
theorem dL_law_250 : decode cL_law 250 = .ok (.aload 9, 2) := by decide +kernel
theorem dL_law_252 : decode cL_law 252 = .ok (.iload 8, 2) := by decide +kernel
theorem dL_law_254 : decode cL_law 254 = .ok (.bipush 13, 2) := by decide +kernel
theorem dL_law_256 : decode cL_law 256 = .ok (.iconst 2, 1) := by decide +kernel
theorem dL_law_257 : decode cL_law 257 = .ok (.invokestatic 169, 3) := by decide +kernel
theorem dL_law_260 : decode cL_law 260 = .ok (.ifCond .le 7, 3) := by decide +kernel
theorem dL_law_263 : decode cL_law 263 = .ok (.iconst 1, 1) := by decide +kernel
theorem dL_law_264 : decode cL_law 264 = .ok (.goto 4, 3) := by decide +kernel
theorem dL_law_267 : decode cL_law 267 = .ok (.iconst 0, 1) := by decide +kernel
theorem dL_law_268 : decode cL_law 268 = .ok (.putfield 162, 3) := by decide +kernel
theorem dL_law_271 : decode cL_law 271 = .ok (.aload_n 2, 1) := by decide +kernel
theorem dL_law_272 : decode cL_law 272 = .ok (.getfield 141, 3) := by decide +kernel
theorem dL_law_275 : decode cL_law 275 = .ok (.aload 9, 2) := by decide +kernel
theorem dL_law_277 : decode cL_law 277 = .ok (.invokeinterface 223 2, 5) := by decide +kernel
theorem dL_law_282 : decode cL_law 282 = .ok (.pop, 1) := by decide +kernel
theorem dL_law_283 : decode cL_law 283 = .ok (.aload 4, 2) := by decide +kernel
theorem dL_law_285 : decode cL_law 285 = .ok (.ldc 244, 2) := by decide +kernel
theorem dL_law_287 : decode cL_law 287 = .ok (.invokevirtual 229, 3) := by decide +kernel
theorem dL_law_290 : decode cL_law 290 = .ok (.bipush 97, 2) := by decide +kernel
theorem dL_law_292 : decode cL_law 292 = .ok (.iload 7, 2) := by decide +kernel
theorem dL_law_294 : decode cL_law 294 = .ok (.iadd, 1) := by decide +kernel
theorem dL_law_295 : decode cL_law 295 = .ok (.i2c, 1) := by decide +kernel
theorem dL_law_296 : decode cL_law 296 = .ok (.invokevirtual 233, 3) := by decide +kernel
theorem dL_law_299 : decode cL_law 299 = .ok (.bipush 32, 2) := by decide +kernel
theorem dL_law_301 : decode cL_law 301 = .ok (.invokevirtual 233, 3) := by decide +kernel
theorem dL_law_304 : decode cL_law 304 = .ok (.aload 9, 2) := by decide +kernel
theorem dL_law_306 : decode cL_law 306 = .ok (.getfield 150, 3) := by decide +kernel
theorem dL_law_309 : decode cL_law 309 = .ok (.invokevirtual 236, 3) := by decide +kernel
theorem dL_law_312 : decode cL_law 312 = .ok (.bipush 32, 2) := by decide +kernel
theorem dL_law_314 : decode cL_law 314 = .ok (.invokevirtual 233, 3) := by decide +kernel
theorem dL_law_317 : decode cL_law 317 = .ok (.aload 9, 2) := by decide +kernel
theorem dL_law_319 : decode cL_law 319 = .ok (.getfield 156, 3) := by decide +kernel
theorem dL_law_322 : decode cL_law 322 = .ok (.invokevirtual 236, 3) := by decide +kernel
theorem dL_law_325 : decode cL_law 325 = .ok (.aload 9, 2) := by decide +kernel
theorem dL_law_327 : decode cL_law 327 = .ok (.getfield 162, 3) := by decide +kernel
theorem dL_law_330 : decode cL_law 330 = .ok (.ifCond .eq 8, 3) := by decide +kernel
theorem dL_law_333 : decode cL_law 333 = .ok (.ldc 246, 2) := by decide +kernel
theorem dL_law_335 : decode cL_law 335 = .ok (.goto 5, 3) := by decide +kernel
theorem dL_law_338 : decode cL_law 338 = .ok (.ldc 248, 2) := by decide +kernel
theorem dL_law_340 : decode cL_law 340 = .ok (.invokevirtual 229, 3) := by decide +kernel
theorem dL_law_343 : decode cL_law 343 = .ok (.pop, 1) := by decide +kernel
theorem dL_law_344 : decode cL_law 344 = .ok (.iinc 7 1, 3) := by decide +kernel
theorem dL_law_347 : decode cL_law 347 = .ok (.goto (-157), 3) := by decide +kernel
theorem dL_law_350 : decode cL_law 350 = .ok (.iconst 1, 1) := by decide +kernel
theorem dL_law_351 : decode cL_law 351 = .ok (.iload_n 3, 1) := by decide +kernel
theorem dL_law_352 : decode cL_law 352 = .ok (.iconst 4, 1) := by decide +kernel
theorem dL_law_353 : decode cL_law 353 = .ok (.iconst 3, 1) := by decide +kernel
theorem dL_law_354 : decode cL_law 354 = .ok (.invokestatic 169, 3) := by decide +kernel
theorem dL_law_357 : decode cL_law 357 = .ok (.iadd, 1) := by decide +kernel
theorem dL_law_358 : decode cL_law 358 = .ok (.istore 7, 2) := by decide +kernel
theorem dL_law_360 : decode cL_law 360 = .ok (.iconst 0, 1) := by decide +kernel
theorem dL_law_361 : decode cL_law 361 = .ok (.istore 8, 2) := by decide +kernel
theorem dL_law_363 : decode cL_law 363 = .ok (.iload 8, 2) := by decide +kernel
theorem dL_law_365 : decode cL_law 365 = .ok (.iload 7, 2) := by decide +kernel
theorem dL_law_367 : decode cL_law 367 = .ok (.if_icmp .ge 121, 3) := by decide +kernel
theorem dL_law_370 : decode cL_law 370 = .ok (.aload_n 0, 1) := by decide +kernel
theorem dL_law_371 : decode cL_law 371 = .ok (.bipush 9, 2) := by decide +kernel
theorem dL_law_373 : decode cL_law 373 = .ok (.iload 8, 2) := by decide +kernel
theorem dL_law_375 : decode cL_law 375 = .ok (.iadd, 1) := by decide +kernel
theorem dL_law_376 : decode cL_law 376 = .ok (.invokestatic 209, 3) := by decide +kernel
theorem dL_law_379 : decode cL_law 379 = .ok (.istore 9, 2) := by decide +kernel
theorem dL_law_381 : decode cL_law 381 = .ok (.aload_n 2, 1) := by decide +kernel
theorem dL_law_382 : decode cL_law 382 = .ok (.getfield 100, 3) := by decide +kernel
theorem dL_law_385 : decode cL_law 385 = .ok (.iload 9, 2) := by decide +kernel
theorem dL_law_387 : decode cL_law 387 = .ok (.iconst 0, 1) := by decide +kernel
theorem dL_law_388 : decode cL_law 388 = .ok (.iconst 4, 1) := by decide +kernel
theorem dL_law_389 : decode cL_law 389 = .ok (.invokestatic 169, 3) := by decide +kernel
theorem dL_law_392 : decode cL_law 392 = .ok (.iload 5, 2) := by decide +kernel
theorem dL_law_394 : decode cL_law 394 = .ok (.irem, 1) := by decide +kernel
theorem dL_law_395 : decode cL_law 395 = .ok (.invokeinterface 178 2, 5) := by decide +kernel
theorem dL_law_400 : decode cL_law 400 = .ok (.checkcast 48, 3) := by decide +kernel
theorem dL_law_403 : decode cL_law 403 = .ok (.astore 10, 2) := by decide +kernel
theorem dL_law_405 : decode cL_law 405 = .ok (.aload_n 2, 1) := by decide +kernel
theorem dL_law_406 : decode cL_law 406 = .ok (.getfield 250, 3) := by decide +kernel
theorem dL_law_409 : decode cL_law 409 = .ok (.aload 10, 2) := by decide +kernel
theorem dL_law_411 : decode cL_law 411 = .ok (.invokeinterface 223 2, 5) := by decide +kernel
theorem dL_law_416 : decode cL_law 416 = .ok (.pop, 1) := by decide +kernel
theorem dL_law_417 : decode cL_law 417 = .ok (.aload_n 2, 1) := by decide +kernel
theorem dL_law_418 : decode cL_law 418 = .ok (.getfield 253, 3) := by decide +kernel
theorem dL_law_421 : decode cL_law 421 = .ok (.iconst 1, 1) := by decide +kernel
theorem dL_law_422 : decode cL_law 422 = .ok (.iload 9, 2) := by decide +kernel
theorem dL_law_424 : decode cL_law 424 = .ok (.iconst 4, 1) := by decide +kernel
theorem dL_law_425 : decode cL_law 425 = .ok (.iconst 2, 1) := by decide +kernel
theorem dL_law_426 : decode cL_law 426 = .ok (.invokestatic 169, 3) := by decide +kernel
theorem dL_law_429 : decode cL_law 429 = .ok (.iadd, 1) := by decide +kernel
theorem dL_law_430 : decode cL_law 430 = .ok (.invokestatic 256, 3) := by decide +kernel
theorem dL_law_433 : decode cL_law 433 = .ok (.invokeinterface 223 2, 5) := by decide +kernel
theorem dL_law_438 : decode cL_law 438 = .ok (.pop, 1) := by decide +kernel
theorem dL_law_439 : decode cL_law 439 = .ok (.aload 4, 2) := by decide +kernel
theorem dL_law_441 : decode cL_law 441 = .ok (.ldc_w 262, 3) := by decide +kernel
theorem dL_law_444 : decode cL_law 444 = .ok (.invokevirtual 229, 3) := by decide +kernel
theorem dL_law_447 : decode cL_law 447 = .ok (.bipush 97, 2) := by decide +kernel
theorem dL_law_449 : decode cL_law 449 = .ok (.aload 10, 2) := by decide +kernel
theorem dL_law_451 : decode cL_law 451 = .ok (.getfield 47, 3) := by decide +kernel
theorem dL_law_454 : decode cL_law 454 = .ok (.iadd, 1) := by decide +kernel
theorem dL_law_455 : decode cL_law 455 = .ok (.i2c, 1) := by decide +kernel
theorem dL_law_456 : decode cL_law 456 = .ok (.invokevirtual 233, 3) := by decide +kernel
theorem dL_law_459 : decode cL_law 459 = .ok (.bipush 32, 2) := by decide +kernel
theorem dL_law_461 : decode cL_law 461 = .ok (.invokevirtual 233, 3) := by decide +kernel
theorem dL_law_464 : decode cL_law 464 = .ok (.iconst 1, 1) := by decide +kernel
theorem dL_law_465 : decode cL_law 465 = .ok (.iload 9, 2) := by decide +kernel
theorem dL_law_467 : decode cL_law 467 = .ok (.iconst 4, 1) := by decide +kernel
theorem dL_law_468 : decode cL_law 468 = .ok (.iconst 2, 1) := by decide +kernel
theorem dL_law_469 : decode cL_law 469 = .ok (.invokestatic 169, 3) := by decide +kernel
theorem dL_law_472 : decode cL_law 472 = .ok (.iadd, 1) := by decide +kernel
theorem dL_law_473 : decode cL_law 473 = .ok (.invokevirtual 236, 3) := by decide +kernel
theorem dL_law_476 : decode cL_law 476 = .ok (.bipush 59, 2) := by decide +kernel
theorem dL_law_478 : decode cL_law 478 = .ok (.invokevirtual 233, 3) := by decide +kernel
theorem dL_law_481 : decode cL_law 481 = .ok (.pop, 1) := by decide +kernel
theorem dL_law_482 : decode cL_law 482 = .ok (.iinc 8 1, 3) := by decide +kernel
theorem dL_law_485 : decode cL_law 485 = .ok (.goto (-122), 3) := by decide +kernel
theorem dL_law_488 : decode cL_law 488 = .ok (.aload_n 2, 1) := by decide +kernel
theorem dL_law_489 : decode cL_law 489 = .ok (.iload_n 3, 1) := by decide +kernel
theorem dL_law_490 : decode cL_law 490 = .ok (.bipush 7, 2) := by decide +kernel
theorem dL_law_492 : decode cL_law 492 = .ok (.iconst 3, 1) := by decide +kernel
theorem dL_law_493 : decode cL_law 493 = .ok (.invokestatic 169, 3) := by decide +kernel
theorem dL_law_496 : decode cL_law 496 = .ok (.putfield 38, 3) := by decide +kernel
theorem dL_law_499 : decode cL_law 499 = .ok (.aload_n 2, 1) := by decide +kernel
theorem dL_law_500 : decode cL_law 500 = .ok (.iload_n 3, 1) := by decide +kernel
theorem dL_law_501 : decode cL_law 501 = .ok (.bipush 10, 2) := by decide +kernel
theorem dL_law_503 : decode cL_law 503 = .ok (.iconst 4, 1) := by decide +kernel
theorem dL_law_504 : decode cL_law 504 = .ok (.invokestatic 169, 3) := by decide +kernel
theorem dL_law_507 : decode cL_law 507 = .ok (.putfield 30, 3) := by decide +kernel
theorem dL_law_510 : decode cL_law 510 = .ok (.aload_n 2, 1) := by decide +kernel
theorem dL_law_511 : decode cL_law 511 = .ok (.aload_n 2, 1) := by decide +kernel
theorem dL_law_512 : decode cL_law 512 = .ok (.getfield 253, 3) := by decide +kernel
theorem dL_law_515 : decode cL_law 515 = .ok (.iconst 0, 1) := by decide +kernel
theorem dL_law_516 : decode cL_law 516 = .ok (.invokeinterface 178 2, 5) := by decide +kernel
theorem dL_law_521 : decode cL_law 521 = .ok (.checkcast 257, 3) := by decide +kernel
theorem dL_law_524 : decode cL_law 524 = .ok (.invokevirtual 264, 3) := by decide +kernel
theorem dL_law_527 : decode cL_law 527 = .ok (.putfield 61, 3) := by decide +kernel
theorem dL_law_530 : decode cL_law 530 = .ok (.aload_n 2, 1) := by decide +kernel
theorem dL_law_531 : decode cL_law 531 = .ok (.aload_n 2, 1) := by decide +kernel
theorem dL_law_532 : decode cL_law 532 = .ok (.getfield 250, 3) := by decide +kernel
theorem dL_law_535 : decode cL_law 535 = .ok (.iconst 0, 1) := by decide +kernel
theorem dL_law_536 : decode cL_law 536 = .ok (.invokeinterface 178 2, 5) := by decide +kernel
theorem dL_law_541 : decode cL_law 541 = .ok (.checkcast 48, 3) := by decide +kernel
theorem dL_law_544 : decode cL_law 544 = .ok (.invokevirtual 267, 3) := by decide +kernel
theorem dL_law_547 : decode cL_law 547 = .ok (.aload 4, 2) := by decide +kernel
theorem dL_law_549 : decode cL_law 549 = .ok (.ldc_w 271, 3) := by decide +kernel
theorem dL_law_552 : decode cL_law 552 = .ok (.invokevirtual 229, 3) := by decide +kernel
theorem dL_law_555 : decode cL_law 555 = .ok (.aload_n 2, 1) := by decide +kernel
theorem dL_law_556 : decode cL_law 556 = .ok (.getfield 38, 3) := by decide +kernel
theorem dL_law_559 : decode cL_law 559 = .ok (.invokevirtual 236, 3) := by decide +kernel
theorem dL_law_562 : decode cL_law 562 = .ok (.ldc_w 273, 3) := by decide +kernel
theorem dL_law_565 : decode cL_law 565 = .ok (.invokevirtual 229, 3) := by decide +kernel
theorem dL_law_568 : decode cL_law 568 = .ok (.aload_n 2, 1) := by decide +kernel
theorem dL_law_569 : decode cL_law 569 = .ok (.getfield 30, 3) := by decide +kernel
theorem dL_law_572 : decode cL_law 572 = .ok (.invokevirtual 236, 3) := by decide +kernel
theorem dL_law_575 : decode cL_law 575 = .ok (.bipush 59, 2) := by decide +kernel
theorem dL_law_577 : decode cL_law 577 = .ok (.invokevirtual 233, 3) := by decide +kernel
theorem dL_law_580 : decode cL_law 580 = .ok (.pop, 1) := by decide +kernel
theorem dL_law_581 : decode cL_law 581 = .ok (.aload_n 1, 1) := by decide +kernel
theorem dL_law_582 : decode cL_law 582 = .ok (.aload 4, 2) := by decide +kernel
theorem dL_law_584 : decode cL_law 584 = .ok (.invokevirtual 275, 3) := by decide +kernel
theorem dL_law_587 : decode cL_law 587 = .ok (.invokestatic 279, 3) := by decide +kernel
theorem dL_law_590 : decode cL_law 590 = .ok (.aload_n 1, 1) := by decide +kernel
theorem dL_law_591 : decode cL_law 591 = .ok (.invokevirtual 283, 3) := by decide +kernel
theorem dL_law_594 : decode cL_law 594 = .ok (.iload 5, 2) := by decide +kernel
theorem dL_law_596 : decode cL_law 596 = .ok (.if_icmp .ne 11, 3) := by decide +kernel
theorem dL_law_599 : decode cL_law 599 = .ok (.aload_n 1, 1) := by decide +kernel
theorem dL_law_600 : decode cL_law 600 = .ok (.aload_n 2, 1) := by decide +kernel
theorem dL_law_601 : decode cL_law 601 = .ok (.invokestatic 286, 3) := by decide +kernel
theorem dL_law_604 : decode cL_law 604 = .ok (.ifCond .ne 5, 3) := by decide +kernel
theorem dL_law_607 : decode cL_law 607 = .ok (.iconst 0, 1) := by decide +kernel
theorem dL_law_608 : decode cL_law 608 = .ok (.ireturn, 1) := by decide +kernel
theorem dL_law_609 : decode cL_law 609 = .ok (.iconst 0, 1) := by decide +kernel
theorem dL_law_610 : decode cL_law 610 = .ok (.istore 8, 2) := by decide +kernel
theorem dL_law_612 : decode cL_law 612 = .ok (.iload 8, 2) := by decide +kernel
theorem dL_law_614 : decode cL_law 614 = .ok (.bipush 28, 2) := by decide +kernel
theorem dL_law_616 : decode cL_law 616 = .ok (.if_icmp .ge 36, 3) := by decide +kernel
theorem dL_law_619 : decode cL_law 619 = .ok (.aload_n 1, 1) := by decide +kernel
theorem dL_law_620 : decode cL_law 620 = .ok (.aload_n 2, 1) := by decide +kernel
theorem dL_law_621 : decode cL_law 621 = .ok (.aload_n 0, 1) := by decide +kernel
theorem dL_law_622 : decode cL_law 622 = .ok (.bipush 17, 2) := by decide +kernel
theorem dL_law_624 : decode cL_law 624 = .ok (.iload 8, 2) := by decide +kernel
theorem dL_law_626 : decode cL_law 626 = .ok (.iadd, 1) := by decide +kernel
theorem dL_law_627 : decode cL_law 627 = .ok (.invokestatic 209, 3) := by decide +kernel
theorem dL_law_630 : decode cL_law 630 = .ok (.invokestatic 290, 3) := by decide +kernel
theorem dL_law_633 : decode cL_law 633 = .ok (.ifCond .eq 11, 3) := by decide +kernel
theorem dL_law_636 : decode cL_law 636 = .ok (.aload_n 1, 1) := by decide +kernel
theorem dL_law_637 : decode cL_law 637 = .ok (.aload_n 2, 1) := by decide +kernel
theorem dL_law_638 : decode cL_law 638 = .ok (.invokestatic 286, 3) := by decide +kernel
theorem dL_law_641 : decode cL_law 641 = .ok (.ifCond .ne 5, 3) := by decide +kernel
theorem dL_law_644 : decode cL_law 644 = .ok (.iconst 0, 1) := by decide +kernel
theorem dL_law_645 : decode cL_law 645 = .ok (.ireturn, 1) := by decide +kernel
theorem dL_law_646 : decode cL_law 646 = .ok (.iinc 8 1, 3) := by decide +kernel
theorem dL_law_649 : decode cL_law 649 = .ok (.goto (-37), 3) := by decide +kernel
theorem dL_law_652 : decode cL_law 652 = .ok (.aload_n 1, 1) := by decide +kernel
theorem dL_law_653 : decode cL_law 653 = .ok (.invokevirtual 294, 3) := by decide +kernel
theorem dL_law_656 : decode cL_law 656 = .ok (.ireturn, 1) := by decide +kernel
