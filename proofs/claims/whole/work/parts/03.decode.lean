theorem dX0_init_0 : decode cX0_init 0 = .ok (.aload_n 0, 1) := by decide +kernel
theorem dX0_init_1 : decode cX0_init 1 = .ok (.invokespecial 3, 3) := by decide +kernel
theorem dX0_init_4 : decode cX0_init 4 = .ok (.aload_n 0, 1) := by decide +kernel
theorem dX0_init_5 : decode cX0_init 5 = .ok (.ldc 9, 2) := by decide +kernel
theorem dX0_init_7 : decode cX0_init 7 = .ok (.putfield 11, 3) := by decide +kernel
theorem dX0_init_10 : decode cX0_init 10 = .ok (.return_, 1) := by decide +kernel
theorem dX0_copyFrom_0 : decode cX0_copyFrom 0 = .ok (.aload_n 0, 1) := by decide +kernel
theorem dX0_copyFrom_1 : decode cX0_copyFrom 1 = .ok (.aload_n 1, 1) := by decide +kernel
theorem dX0_copyFrom_2 : decode cX0_copyFrom 2 = .ok (.getfield 11, 3) := by decide +kernel
theorem dX0_copyFrom_5 : decode cX0_copyFrom 5 = .ok (.putfield 11, 3) := by decide +kernel
theorem dX0_copyFrom_8 : decode cX0_copyFrom 8 = .ok (.aload_n 0, 1) := by decide +kernel
theorem dX0_copyFrom_9 : decode cX0_copyFrom 9 = .ok (.aload_n 1, 1) := by decide +kernel
theorem dX0_copyFrom_10 : decode cX0_copyFrom 10 = .ok (.getfield 17, 3) := by decide +kernel
theorem dX0_copyFrom_13 : decode cX0_copyFrom 13 = .ok (.putfield 17, 3) := by decide +kernel
theorem dX0_copyFrom_16 : decode cX0_copyFrom 16 = .ok (.aload_n 0, 1) := by decide +kernel
theorem dX0_copyFrom_17 : decode cX0_copyFrom 17 = .ok (.aload_n 1, 1) := by decide +kernel
theorem dX0_copyFrom_18 : decode cX0_copyFrom 18 = .ok (.getfield 21, 3) := by decide +kernel
theorem dX0_copyFrom_21 : decode cX0_copyFrom 21 = .ok (.putfield 21, 3) := by decide +kernel
theorem dX0_copyFrom_24 : decode cX0_copyFrom 24 = .ok (.aload_n 0, 1) := by decide +kernel
theorem dX0_copyFrom_25 : decode cX0_copyFrom 25 = .ok (.aload_n 1, 1) := by decide +kernel
theorem dX0_copyFrom_26 : decode cX0_copyFrom 26 = .ok (.getfield 25, 3) := by decide +kernel
theorem dX0_copyFrom_29 : decode cX0_copyFrom 29 = .ok (.putfield 25, 3) := by decide +kernel
theorem dX0_copyFrom_32 : decode cX0_copyFrom 32 = .ok (.aload_n 0, 1) := by decide +kernel
theorem dX0_copyFrom_33 : decode cX0_copyFrom 33 = .ok (.aload_n 1, 1) := by decide +kernel
theorem dX0_copyFrom_34 : decode cX0_copyFrom 34 = .ok (.getfield 28, 3) := by decide +kernel
theorem dX0_copyFrom_37 : decode cX0_copyFrom 37 = .ok (.putfield 28, 3) := by decide +kernel
theorem dX0_copyFrom_40 : decode cX0_copyFrom 40 = .ok (.aload_n 0, 1) := by decide +kernel
theorem dX0_copyFrom_41 : decode cX0_copyFrom 41 = .ok (.aload_n 1, 1) := by decide +kernel
theorem dX0_copyFrom_42 : decode cX0_copyFrom 42 = .ok (.getfield 31, 3) := by decide +kernel
theorem dX0_copyFrom_45 : decode cX0_copyFrom 45 = .ok (.putfield 31, 3) := by decide +kernel
theorem dX0_copyFrom_48 : decode cX0_copyFrom 48 = .ok (.return_, 1) := by decide +kernel
theorem dX0_begin_0 : decode cX0_begin 0 = .ok (.aload_n 0, 1) := by decide +kernel
theorem dX0_begin_1 : decode cX0_begin 1 = .ok (.iconst 0, 1) := by decide +kernel
theorem dX0_begin_2 : decode cX0_begin 2 = .ok (.putfield 25, 3) := by decide +kernel
theorem dX0_begin_5 : decode cX0_begin 5 = .ok (.aload_n 0, 1) := by decide +kernel
theorem dX0_begin_6 : decode cX0_begin 6 = .ok (.iconst 0, 1) := by decide +kernel
theorem dX0_begin_7 : decode cX0_begin 7 = .ok (.putfield 28, 3) := by decide +kernel
theorem dX0_begin_10 : decode cX0_begin 10 = .ok (.aload_n 0, 1) := by decide +kernel
theorem dX0_begin_11 : decode cX0_begin 11 = .ok (.iconst 0, 1) := by decide +kernel
theorem dX0_begin_12 : decode cX0_begin 12 = .ok (.putfield 31, 3) := by decide +kernel
theorem dX0_begin_15 : decode cX0_begin 15 = .ok (.return_, 1) := by decide +kernel
theorem dX0_strength_0 : decode cX0_strength 0 = .ok (.aload_n 0, 1) := by decide +kernel
theorem dX0_strength_1 : decode cX0_strength 1 = .ok (.getfield 17, 3) := by decide +kernel
theorem dX0_strength_4 : decode cX0_strength 4 = .ok (.aload_n 0, 1) := by decide +kernel
theorem dX0_strength_5 : decode cX0_strength 5 = .ok (.getfield 25, 3) := by decide +kernel
theorem dX0_strength_8 : decode cX0_strength 8 = .ok (.iconst 4, 1) := by decide +kernel
theorem dX0_strength_9 : decode cX0_strength 9 = .ok (.idiv, 1) := by decide +kernel
theorem dX0_strength_10 : decode cX0_strength 10 = .ok (.isub, 1) := by decide +kernel
theorem dX0_strength_11 : decode cX0_strength 11 = .ok (.iconst 0, 1) := by decide +kernel
theorem dX0_strength_12 : decode cX0_strength 12 = .ok (.invokestatic 34, 3) := by decide +kernel
theorem dX0_strength_15 : decode cX0_strength 15 = .ok (.ireturn, 1) := by decide +kernel
theorem dX0_tire_0 : decode cX0_tire 0 = .ok (.aload_n 0, 1) := by decide +kernel
theorem dX0_tire_1 : decode cX0_tire 1 = .ok (.aload_n 0, 1) := by decide +kernel
theorem dX0_tire_2 : decode cX0_tire 2 = .ok (.getfield 25, 3) := by decide +kernel
theorem dX0_tire_5 : decode cX0_tire 5 = .ok (.iconst 1, 1) := by decide +kernel
theorem dX0_tire_6 : decode cX0_tire 6 = .ok (.iadd, 1) := by decide +kernel
theorem dX0_tire_7 : decode cX0_tire 7 = .ok (.bipush 20, 2) := by decide +kernel
theorem dX0_tire_9 : decode cX0_tire 9 = .ok (.invokestatic 40, 3) := by decide +kernel
theorem dX0_tire_12 : decode cX0_tire 12 = .ok (.putfield 25, 3) := by decide +kernel
theorem dX0_tire_15 : decode cX0_tire 15 = .ok (.return_, 1) := by decide +kernel
theorem dX0_recover_0 : decode cX0_recover 0 = .ok (.aload_n 0, 1) := by decide +kernel
theorem dX0_recover_1 : decode cX0_recover 1 = .ok (.aload_n 0, 1) := by decide +kernel
theorem dX0_recover_2 : decode cX0_recover 2 = .ok (.getfield 25, 3) := by decide +kernel
theorem dX0_recover_5 : decode cX0_recover 5 = .ok (.iload_n 1, 1) := by decide +kernel
theorem dX0_recover_6 : decode cX0_recover 6 = .ok (.isub, 1) := by decide +kernel
theorem dX0_recover_7 : decode cX0_recover 7 = .ok (.iconst 0, 1) := by decide +kernel
theorem dX0_recover_8 : decode cX0_recover 8 = .ok (.invokestatic 34, 3) := by decide +kernel
theorem dX0_recover_11 : decode cX0_recover 11 = .ok (.putfield 25, 3) := by decide +kernel
theorem dX0_recover_14 : decode cX0_recover 14 = .ok (.return_, 1) := by decide +kernel
theorem dX1_init_0 : decode cX1_init 0 = .ok (.aload_n 0, 1) := by decide +kernel
theorem dX1_init_1 : decode cX1_init 1 = .ok (.invokespecial 3, 3) := by decide +kernel
theorem dX1_init_4 : decode cX1_init 4 = .ok (.aload_n 0, 1) := by decide +kernel
theorem dX1_init_5 : decode cX1_init 5 = .ok (.bipush 16, 2) := by decide +kernel
theorem dX1_init_7 : decode cX1_init 7 = .ok (.newarray .int, 2) := by decide +kernel
theorem dX1_init_9 : decode cX1_init 9 = .ok (.putfield 9, 3) := by decide +kernel
theorem dX1_init_12 : decode cX1_init 12 = .ok (.aload_n 0, 1) := by decide +kernel
theorem dX1_init_13 : decode cX1_init 13 = .ok (.bipush 16, 2) := by decide +kernel
theorem dX1_init_15 : decode cX1_init 15 = .ok (.newarray .int, 2) := by decide +kernel
theorem dX1_init_17 : decode cX1_init 17 = .ok (.putfield 15, 3) := by decide +kernel
theorem dX1_init_20 : decode cX1_init 20 = .ok (.aload_n 0, 1) := by decide +kernel
theorem dX1_init_21 : decode cX1_init 21 = .ok (.bipush 16, 2) := by decide +kernel
theorem dX1_init_23 : decode cX1_init 23 = .ok (.newarray .int, 2) := by decide +kernel
theorem dX1_init_25 : decode cX1_init 25 = .ok (.putfield 18, 3) := by decide +kernel
theorem dX1_init_28 : decode cX1_init 28 = .ok (.return_, 1) := by decide +kernel
theorem dX1_copyFrom_0 : decode cX1_copyFrom 0 = .ok (.aload_n 1, 1) := by decide +kernel
theorem dX1_copyFrom_1 : decode cX1_copyFrom 1 = .ok (.getfield 9, 3) := by decide +kernel
theorem dX1_copyFrom_4 : decode cX1_copyFrom 4 = .ok (.iconst 0, 1) := by decide +kernel
theorem dX1_copyFrom_5 : decode cX1_copyFrom 5 = .ok (.aload_n 0, 1) := by decide +kernel
theorem dX1_copyFrom_6 : decode cX1_copyFrom 6 = .ok (.getfield 9, 3) := by decide +kernel
theorem dX1_copyFrom_9 : decode cX1_copyFrom 9 = .ok (.iconst 0, 1) := by decide +kernel
theorem dX1_copyFrom_10 : decode cX1_copyFrom 10 = .ok (.bipush 16, 2) := by decide +kernel
theorem dX1_copyFrom_12 : decode cX1_copyFrom 12 = .ok (.invokestatic 21, 3) := by decide +kernel
theorem dX1_copyFrom_15 : decode cX1_copyFrom 15 = .ok (.aload_n 1, 1) := by decide +kernel
theorem dX1_copyFrom_16 : decode cX1_copyFrom 16 = .ok (.getfield 15, 3) := by decide +kernel
theorem dX1_copyFrom_19 : decode cX1_copyFrom 19 = .ok (.iconst 0, 1) := by decide +kernel
theorem dX1_copyFrom_20 : decode cX1_copyFrom 20 = .ok (.aload_n 0, 1) := by decide +kernel
theorem dX1_copyFrom_21 : decode cX1_copyFrom 21 = .ok (.getfield 15, 3) := by decide +kernel
theorem dX1_copyFrom_24 : decode cX1_copyFrom 24 = .ok (.iconst 0, 1) := by decide +kernel
theorem dX1_copyFrom_25 : decode cX1_copyFrom 25 = .ok (.bipush 16, 2) := by decide +kernel
theorem dX1_copyFrom_27 : decode cX1_copyFrom 27 = .ok (.invokestatic 21, 3) := by decide +kernel
theorem dX1_copyFrom_30 : decode cX1_copyFrom 30 = .ok (.aload_n 1, 1) := by decide +kernel
theorem dX1_copyFrom_31 : decode cX1_copyFrom 31 = .ok (.getfield 18, 3) := by decide +kernel
theorem dX1_copyFrom_34 : decode cX1_copyFrom 34 = .ok (.iconst 0, 1) := by decide +kernel
theorem dX1_copyFrom_35 : decode cX1_copyFrom 35 = .ok (.aload_n 0, 1) := by decide +kernel
theorem dX1_copyFrom_36 : decode cX1_copyFrom 36 = .ok (.getfield 18, 3) := by decide +kernel
theorem dX1_copyFrom_39 : decode cX1_copyFrom 39 = .ok (.iconst 0, 1) := by decide +kernel
theorem dX1_copyFrom_40 : decode cX1_copyFrom 40 = .ok (.bipush 16, 2) := by decide +kernel
theorem dX1_copyFrom_42 : decode cX1_copyFrom 42 = .ok (.invokestatic 21, 3) := by decide +kernel
theorem dX1_copyFrom_45 : decode cX1_copyFrom 45 = .ok (.aload_n 0, 1) := by decide +kernel
theorem dX1_copyFrom_46 : decode cX1_copyFrom 46 = .ok (.aload_n 1, 1) := by decide +kernel
theorem dX1_copyFrom_47 : decode cX1_copyFrom 47 = .ok (.getfield 27, 3) := by decide +kernel
theorem dX1_copyFrom_50 : decode cX1_copyFrom 50 = .ok (.putfield 27, 3) := by decide +kernel
theorem dX1_copyFrom_53 : decode cX1_copyFrom 53 = .ok (.aload_n 0, 1) := by decide +kernel
theorem dX1_copyFrom_54 : decode cX1_copyFrom 54 = .ok (.aload_n 1, 1) := by decide +kernel
theorem dX1_copyFrom_55 : decode cX1_copyFrom 55 = .ok (.getfield 31, 3) := by decide +kernel
theorem dX1_copyFrom_58 : decode cX1_copyFrom 58 = .ok (.putfield 31, 3) := by decide +kernel
theorem dX1_copyFrom_61 : decode cX1_copyFrom 61 = .ok (.return_, 1) := by decide +kernel
theorem dX1_clear_0 : decode cX1_clear 0 = .ok (.aload_n 0, 1) := by decide +kernel
theorem dX1_clear_1 : decode cX1_clear 1 = .ok (.iconst 0, 1) := by decide +kernel
theorem dX1_clear_2 : decode cX1_clear 2 = .ok (.putfield 27, 3) := by decide +kernel
theorem dX1_clear_5 : decode cX1_clear 5 = .ok (.aload_n 0, 1) := by decide +kernel
theorem dX1_clear_6 : decode cX1_clear 6 = .ok (.iconst 0, 1) := by decide +kernel
theorem dX1_clear_7 : decode cX1_clear 7 = .ok (.putfield 31, 3) := by decide +kernel
theorem dX1_clear_10 : decode cX1_clear 10 = .ok (.return_, 1) := by decide +kernel
theorem dX1_add_0 : decode cX1_add 0 = .ok (.aload_n 0, 1) := by decide +kernel
theorem dX1_add_1 : decode cX1_add 1 = .ok (.getfield 9, 3) := by decide +kernel
theorem dX1_add_4 : decode cX1_add 4 = .ok (.aload_n 0, 1) := by decide +kernel
theorem dX1_add_5 : decode cX1_add 5 = .ok (.getfield 31, 3) := by decide +kernel
theorem dX1_add_8 : decode cX1_add 8 = .ok (.iload_n 1, 1) := by decide +kernel
theorem dX1_add_9 : decode cX1_add 9 = .ok (.iastore, 1) := by decide +kernel
theorem dX1_add_10 : decode cX1_add 10 = .ok (.aload_n 0, 1) := by decide +kernel
theorem dX1_add_11 : decode cX1_add 11 = .ok (.getfield 15, 3) := by decide +kernel
theorem dX1_add_14 : decode cX1_add 14 = .ok (.aload_n 0, 1) := by decide +kernel
theorem dX1_add_15 : decode cX1_add 15 = .ok (.getfield 31, 3) := by decide +kernel
theorem dX1_add_18 : decode cX1_add 18 = .ok (.iload_n 2, 1) := by decide +kernel
theorem dX1_add_19 : decode cX1_add 19 = .ok (.iastore, 1) := by decide +kernel
theorem dX1_add_20 : decode cX1_add 20 = .ok (.aload_n 0, 1) := by decide +kernel
theorem dX1_add_21 : decode cX1_add 21 = .ok (.getfield 18, 3) := by decide +kernel
theorem dX1_add_24 : decode cX1_add 24 = .ok (.aload_n 0, 1) := by decide +kernel
theorem dX1_add_25 : decode cX1_add 25 = .ok (.getfield 31, 3) := by decide +kernel
theorem dX1_add_28 : decode cX1_add 28 = .ok (.iload_n 3, 1) := by decide +kernel
theorem dX1_add_29 : decode cX1_add 29 = .ok (.iastore, 1) := by decide +kernel
theorem dX1_add_30 : decode cX1_add 30 = .ok (.aload_n 0, 1) := by decide +kernel
theorem dX1_add_31 : decode cX1_add 31 = .ok (.aload_n 0, 1) := by decide +kernel
theorem dX1_add_32 : decode cX1_add 32 = .ok (.getfield 31, 3) := by decide +kernel
theorem dX1_add_35 : decode cX1_add 35 = .ok (.iconst 1, 1) := by decide +kernel
theorem dX1_add_36 : decode cX1_add 36 = .ok (.iadd, 1) := by decide +kernel
theorem dX1_add_37 : decode cX1_add 37 = .ok (.bipush 16, 2) := by decide +kernel
theorem dX1_add_39 : decode cX1_add 39 = .ok (.irem, 1) := by decide +kernel
theorem dX1_add_40 : decode cX1_add 40 = .ok (.putfield 31, 3) := by decide +kernel
theorem dX1_add_43 : decode cX1_add 43 = .ok (.aload_n 0, 1) := by decide +kernel
theorem dX1_add_44 : decode cX1_add 44 = .ok (.aload_n 0, 1) := by decide +kernel
theorem dX1_add_45 : decode cX1_add 45 = .ok (.getfield 27, 3) := by decide +kernel
theorem dX1_add_48 : decode cX1_add 48 = .ok (.iconst 1, 1) := by decide +kernel
theorem dX1_add_49 : decode cX1_add 49 = .ok (.iadd, 1) := by decide +kernel
theorem dX1_add_50 : decode cX1_add 50 = .ok (.bipush 16, 2) := by decide +kernel
theorem dX1_add_52 : decode cX1_add 52 = .ok (.invokestatic 34, 3) := by decide +kernel
theorem dX1_add_55 : decode cX1_add 55 = .ok (.putfield 27, 3) := by decide +kernel
theorem dX1_add_58 : decode cX1_add 58 = .ok (.return_, 1) := by decide +kernel
theorem dX1_holds_0 : decode cX1_holds 0 = .ok (.iload_n 1, 1) := by decide +kernel
theorem dX1_holds_1 : decode cX1_holds 1 = .ok (.ifCond .lt 15, 3) := by decide +kernel
theorem dX1_holds_4 : decode cX1_holds 4 = .ok (.iload_n 1, 1) := by decide +kernel
theorem dX1_holds_5 : decode cX1_holds 5 = .ok (.aload_n 0, 1) := by decide +kernel
theorem dX1_holds_6 : decode cX1_holds 6 = .ok (.getfield 27, 3) := by decide +kernel
theorem dX1_holds_9 : decode cX1_holds 9 = .ok (.if_icmp .ge 7, 3) := by decide +kernel
theorem dX1_holds_12 : decode cX1_holds 12 = .ok (.iconst 1, 1) := by decide +kernel
theorem dX1_holds_13 : decode cX1_holds 13 = .ok (.goto 4, 3) := by decide +kernel
theorem dX1_holds_16 : decode cX1_holds 16 = .ok (.iconst 0, 1) := by decide +kernel
theorem dX1_holds_17 : decode cX1_holds 17 = .ok (.ireturn, 1) := by decide +kernel
theorem dX1_slot_0 : decode cX1_slot 0 = .ok (.aload_n 0, 1) := by decide +kernel
theorem dX1_slot_1 : decode cX1_slot 1 = .ok (.getfield 31, 3) := by decide +kernel
theorem dX1_slot_4 : decode cX1_slot 4 = .ok (.iconst 1, 1) := by decide +kernel
theorem dX1_slot_5 : decode cX1_slot 5 = .ok (.isub, 1) := by decide +kernel
theorem dX1_slot_6 : decode cX1_slot 6 = .ok (.iload_n 1, 1) := by decide +kernel
theorem dX1_slot_7 : decode cX1_slot 7 = .ok (.isub, 1) := by decide +kernel
theorem dX1_slot_8 : decode cX1_slot 8 = .ok (.bipush 16, 2) := by decide +kernel
theorem dX1_slot_10 : decode cX1_slot 10 = .ok (.invokestatic 40, 3) := by decide +kernel
theorem dX1_slot_13 : decode cX1_slot 13 = .ok (.ireturn, 1) := by decide +kernel
theorem dX2_init_0 : decode cX2_init 0 = .ok (.aload_n 0, 1) := by decide +kernel
theorem dX2_init_1 : decode cX2_init 1 = .ok (.invokespecial 3, 3) := by decide +kernel
theorem dX2_init_4 : decode cX2_init 4 = .ok (.aload_n 0, 1) := by decide +kernel
theorem dX2_init_5 : decode cX2_init 5 = .ok (.bipush 8, 2) := by decide +kernel
theorem dX2_init_7 : decode cX2_init 7 = .ok (.anewarray 9, 3) := by decide +kernel
theorem dX2_init_10 : decode cX2_init 10 = .ok (.putfield 11, 3) := by decide +kernel
theorem dX2_init_13 : decode cX2_init 13 = .ok (.aload_n 0, 1) := by decide +kernel
theorem dX2_init_14 : decode cX2_init 14 = .ok (.bipush 6, 2) := by decide +kernel
theorem dX2_init_16 : decode cX2_init 16 = .ok (.anewarray 17, 3) := by decide +kernel
theorem dX2_init_19 : decode cX2_init 19 = .ok (.putfield 19, 3) := by decide +kernel
theorem dX2_init_22 : decode cX2_init 22 = .ok (.aload_n 0, 1) := by decide +kernel
theorem dX2_init_23 : decode cX2_init 23 = .ok (.bipush 12, 2) := by decide +kernel
theorem dX2_init_25 : decode cX2_init 25 = .ok (.anewarray 23, 3) := by decide +kernel
theorem dX2_init_28 : decode cX2_init 28 = .ok (.putfield 25, 3) := by decide +kernel
theorem dX2_init_31 : decode cX2_init 31 = .ok (.aload_n 0, 1) := by decide +kernel
theorem dX2_init_32 : decode cX2_init 32 = .ok (.new 29, 3) := by decide +kernel
theorem dX2_init_35 : decode cX2_init 35 = .ok (.dup, 1) := by decide +kernel
theorem dX2_init_36 : decode cX2_init 36 = .ok (.invokespecial 31, 3) := by decide +kernel
theorem dX2_init_39 : decode cX2_init 39 = .ok (.putfield 32, 3) := by decide +kernel
theorem dX2_init_42 : decode cX2_init 42 = .ok (.aload_n 0, 1) := by decide +kernel
theorem dX2_init_43 : decode cX2_init 43 = .ok (.new 36, 3) := by decide +kernel
theorem dX2_init_46 : decode cX2_init 46 = .ok (.dup, 1) := by decide +kernel
theorem dX2_init_47 : decode cX2_init 47 = .ok (.invokespecial 38, 3) := by decide +kernel
theorem dX2_init_50 : decode cX2_init 50 = .ok (.putfield 39, 3) := by decide +kernel
theorem dX2_init_53 : decode cX2_init 53 = .ok (.aload_n 0, 1) := by decide +kernel
theorem dX2_init_54 : decode cX2_init 54 = .ok (.iconst (-1), 1) := by decide +kernel
theorem dX2_init_55 : decode cX2_init 55 = .ok (.putfield 43, 3) := by decide +kernel
theorem dX2_init_58 : decode cX2_init 58 = .ok (.iconst 0, 1) := by decide +kernel
theorem dX2_init_59 : decode cX2_init 59 = .ok (.istore_n 1, 1) := by decide +kernel
theorem dX2_init_60 : decode cX2_init 60 = .ok (.iload_n 1, 1) := by decide +kernel
theorem dX2_init_61 : decode cX2_init 61 = .ok (.aload_n 0, 1) := by decide +kernel
theorem dX2_init_62 : decode cX2_init 62 = .ok (.getfield 11, 3) := by decide +kernel
theorem dX2_init_65 : decode cX2_init 65 = .ok (.arraylength, 1) := by decide +kernel
theorem dX2_init_66 : decode cX2_init 66 = .ok (.if_icmp .ge 22, 3) := by decide +kernel
theorem dX2_init_69 : decode cX2_init 69 = .ok (.aload_n 0, 1) := by decide +kernel
theorem dX2_init_70 : decode cX2_init 70 = .ok (.getfield 11, 3) := by decide +kernel
theorem dX2_init_73 : decode cX2_init 73 = .ok (.iload_n 1, 1) := by decide +kernel
theorem dX2_init_74 : decode cX2_init 74 = .ok (.new 9, 3) := by decide +kernel
theorem dX2_init_77 : decode cX2_init 77 = .ok (.dup, 1) := by decide +kernel
theorem dX2_init_78 : decode cX2_init 78 = .ok (.invokespecial 47, 3) := by decide +kernel
theorem dX2_init_81 : decode cX2_init 81 = .ok (.aastore, 1) := by decide +kernel
theorem dX2_init_82 : decode cX2_init 82 = .ok (.iinc 1 1, 3) := by decide +kernel
theorem dX2_init_85 : decode cX2_init 85 = .ok (.goto (-25), 3) := by decide +kernel
theorem dX2_init_88 : decode cX2_init 88 = .ok (.iconst 0, 1) := by decide +kernel
theorem dX2_init_89 : decode cX2_init 89 = .ok (.istore_n 1, 1) := by decide +kernel
theorem dX2_init_90 : decode cX2_init 90 = .ok (.iload_n 1, 1) := by decide +kernel
theorem dX2_init_91 : decode cX2_init 91 = .ok (.aload_n 0, 1) := by decide +kernel
theorem dX2_init_92 : decode cX2_init 92 = .ok (.getfield 19, 3) := by decide +kernel
theorem dX2_init_95 : decode cX2_init 95 = .ok (.arraylength, 1) := by decide +kernel
theorem dX2_init_96 : decode cX2_init 96 = .ok (.if_icmp .ge 22, 3) := by decide +kernel
theorem dX2_init_99 : decode cX2_init 99 = .ok (.aload_n 0, 1) := by decide +kernel
theorem dX2_init_100 : decode cX2_init 100 = .ok (.getfield 19, 3) := by decide +kernel
theorem dX2_init_103 : decode cX2_init 103 = .ok (.iload_n 1, 1) := by decide +kernel
theorem dX2_init_104 : decode cX2_init 104 = .ok (.new 17, 3) := by decide +kernel
theorem dX2_init_107 : decode cX2_init 107 = .ok (.dup, 1) := by decide +kernel
theorem dX2_init_108 : decode cX2_init 108 = .ok (.invokespecial 48, 3) := by decide +kernel
theorem dX2_init_111 : decode cX2_init 111 = .ok (.aastore, 1) := by decide +kernel
theorem dX2_init_112 : decode cX2_init 112 = .ok (.iinc 1 1, 3) := by decide +kernel
theorem dX2_init_115 : decode cX2_init 115 = .ok (.goto (-25), 3) := by decide +kernel
theorem dX2_init_118 : decode cX2_init 118 = .ok (.iconst 0, 1) := by decide +kernel
theorem dX2_init_119 : decode cX2_init 119 = .ok (.istore_n 1, 1) := by decide +kernel
theorem dX2_init_120 : decode cX2_init 120 = .ok (.iload_n 1, 1) := by decide +kernel
theorem dX2_init_121 : decode cX2_init 121 = .ok (.aload_n 0, 1) := by decide +kernel
theorem dX2_init_122 : decode cX2_init 122 = .ok (.getfield 25, 3) := by decide +kernel
theorem dX2_init_125 : decode cX2_init 125 = .ok (.arraylength, 1) := by decide +kernel
theorem dX2_init_126 : decode cX2_init 126 = .ok (.if_icmp .ge 22, 3) := by decide +kernel
theorem dX2_init_129 : decode cX2_init 129 = .ok (.aload_n 0, 1) := by decide +kernel
theorem dX2_init_130 : decode cX2_init 130 = .ok (.getfield 25, 3) := by decide +kernel
theorem dX2_init_133 : decode cX2_init 133 = .ok (.iload_n 1, 1) := by decide +kernel
theorem dX2_init_134 : decode cX2_init 134 = .ok (.new 23, 3) := by decide +kernel
theorem dX2_init_137 : decode cX2_init 137 = .ok (.dup, 1) := by decide +kernel
theorem dX2_init_138 : decode cX2_init 138 = .ok (.invokespecial 49, 3) := by decide +kernel
theorem dX2_init_141 : decode cX2_init 141 = .ok (.aastore, 1) := by decide +kernel
theorem dX2_init_142 : decode cX2_init 142 = .ok (.iinc 1 1, 3) := by decide +kernel
theorem dX2_init_145 : decode cX2_init 145 = .ok (.goto (-25), 3) := by decide +kernel
theorem dX2_init_148 : decode cX2_init 148 = .ok (.return_, 1) := by decide +kernel
theorem dX2_copyFrom_0 : decode cX2_copyFrom 0 = .ok (.aload_n 0, 1) := by decide +kernel
theorem dX2_copyFrom_1 : decode cX2_copyFrom 1 = .ok (.aload_n 1, 1) := by decide +kernel
theorem dX2_copyFrom_2 : decode cX2_copyFrom 2 = .ok (.getfield 50, 3) := by decide +kernel
theorem dX2_copyFrom_5 : decode cX2_copyFrom 5 = .ok (.putfield 50, 3) := by decide +kernel
theorem dX2_copyFrom_8 : decode cX2_copyFrom 8 = .ok (.aload_n 0, 1) := by decide +kernel
theorem dX2_copyFrom_9 : decode cX2_copyFrom 9 = .ok (.aload_n 1, 1) := by decide +kernel
theorem dX2_copyFrom_10 : decode cX2_copyFrom 10 = .ok (.getfield 53, 3) := by decide +kernel
theorem dX2_copyFrom_13 : decode cX2_copyFrom 13 = .ok (.putfield 53, 3) := by decide +kernel
theorem dX2_copyFrom_16 : decode cX2_copyFrom 16 = .ok (.aload_n 0, 1) := by decide +kernel
theorem dX2_copyFrom_17 : decode cX2_copyFrom 17 = .ok (.aload_n 1, 1) := by decide +kernel
theorem dX2_copyFrom_18 : decode cX2_copyFrom 18 = .ok (.getfield 56, 3) := by decide +kernel
theorem dX2_copyFrom_21 : decode cX2_copyFrom 21 = .ok (.putfield 56, 3) := by decide +kernel
theorem dX2_copyFrom_24 : decode cX2_copyFrom 24 = .ok (.aload_n 0, 1) := by decide +kernel
theorem dX2_copyFrom_25 : decode cX2_copyFrom 25 = .ok (.aload_n 1, 1) := by decide +kernel
theorem dX2_copyFrom_26 : decode cX2_copyFrom 26 = .ok (.getfield 43, 3) := by decide +kernel
theorem dX2_copyFrom_29 : decode cX2_copyFrom 29 = .ok (.putfield 43, 3) := by decide +kernel
theorem dX2_copyFrom_32 : decode cX2_copyFrom 32 = .ok (.aload_n 0, 1) := by decide +kernel
theorem dX2_copyFrom_33 : decode cX2_copyFrom 33 = .ok (.aload_n 1, 1) := by decide +kernel
theorem dX2_copyFrom_34 : decode cX2_copyFrom 34 = .ok (.getfield 59, 3) := by decide +kernel
theorem dX2_copyFrom_37 : decode cX2_copyFrom 37 = .ok (.putfield 59, 3) := by decide +kernel
theorem dX2_copyFrom_40 : decode cX2_copyFrom 40 = .ok (.aload_n 0, 1) := by decide +kernel
theorem dX2_copyFrom_41 : decode cX2_copyFrom 41 = .ok (.aload_n 1, 1) := by decide +kernel
theorem dX2_copyFrom_42 : decode cX2_copyFrom 42 = .ok (.getfield 62, 3) := by decide +kernel
theorem dX2_copyFrom_45 : decode cX2_copyFrom 45 = .ok (.putfield 62, 3) := by decide +kernel
theorem dX2_copyFrom_48 : decode cX2_copyFrom 48 = .ok (.aload_n 0, 1) := by decide +kernel
theorem dX2_copyFrom_49 : decode cX2_copyFrom 49 = .ok (.aload_n 1, 1) := by decide +kernel
theorem dX2_copyFrom_50 : decode cX2_copyFrom 50 = .ok (.getfield 65, 3) := by decide +kernel
theorem dX2_copyFrom_53 : decode cX2_copyFrom 53 = .ok (.putfield 65, 3) := by decide +kernel
theorem dX2_copyFrom_56 : decode cX2_copyFrom 56 = .ok (.aload_n 0, 1) := by decide +kernel
theorem dX2_copyFrom_57 : decode cX2_copyFrom 57 = .ok (.aload_n 1, 1) := by decide +kernel
theorem dX2_copyFrom_58 : decode cX2_copyFrom 58 = .ok (.getfield 68, 3) := by decide +kernel
theorem dX2_copyFrom_61 : decode cX2_copyFrom 61 = .ok (.putfield 68, 3) := by decide +kernel
theorem dX2_copyFrom_64 : decode cX2_copyFrom 64 = .ok (.aload_n 0, 1) := by decide +kernel
theorem dX2_copyFrom_65 : decode cX2_copyFrom 65 = .ok (.getfield 32, 3) := by decide +kernel
theorem dX2_copyFrom_68 : decode cX2_copyFrom 68 = .ok (.aload_n 1, 1) := by decide +kernel
theorem dX2_copyFrom_69 : decode cX2_copyFrom 69 = .ok (.getfield 32, 3) := by decide +kernel
theorem dX2_copyFrom_72 : decode cX2_copyFrom 72 = .ok (.invokevirtual 71, 3) := by decide +kernel
theorem dX2_copyFrom_75 : decode cX2_copyFrom 75 = .ok (.aload_n 0, 1) := by decide +kernel
theorem dX2_copyFrom_76 : decode cX2_copyFrom 76 = .ok (.getfield 39, 3) := by decide +kernel
theorem dX2_copyFrom_79 : decode cX2_copyFrom 79 = .ok (.aload_n 1, 1) := by decide +kernel
theorem dX2_copyFrom_80 : decode cX2_copyFrom 80 = .ok (.getfield 39, 3) := by decide +kernel
theorem dX2_copyFrom_83 : decode cX2_copyFrom 83 = .ok (.invokevirtual 75, 3) := by decide +kernel
theorem dX2_copyFrom_86 : decode cX2_copyFrom 86 = .ok (.iconst 0, 1) := by decide +kernel
theorem dX2_copyFrom_87 : decode cX2_copyFrom 87 = .ok (.istore_n 2, 1) := by decide +kernel
theorem dX2_copyFrom_88 : decode cX2_copyFrom 88 = .ok (.iload_n 2, 1) := by decide +kernel
theorem dX2_copyFrom_89 : decode cX2_copyFrom 89 = .ok (.aload_n 0, 1) := by decide +kernel
theorem dX2_copyFrom_90 : decode cX2_copyFrom 90 = .ok (.getfield 50, 3) := by decide +kernel
theorem dX2_copyFrom_93 : decode cX2_copyFrom 93 = .ok (.if_icmp .ge 24, 3) := by decide +kernel
theorem dX2_copyFrom_96 : decode cX2_copyFrom 96 = .ok (.aload_n 0, 1) := by decide +kernel
theorem dX2_copyFrom_97 : decode cX2_copyFrom 97 = .ok (.getfield 11, 3) := by decide +kernel
theorem dX2_copyFrom_100 : decode cX2_copyFrom 100 = .ok (.iload_n 2, 1) := by decide +kernel
theorem dX2_copyFrom_101 : decode cX2_copyFrom 101 = .ok (.aaload, 1) := by decide +kernel
theorem dX2_copyFrom_102 : decode cX2_copyFrom 102 = .ok (.aload_n 1, 1) := by decide +kernel
theorem dX2_copyFrom_103 : decode cX2_copyFrom 103 = .ok (.getfield 11, 3) := by decide +kernel
theorem dX2_copyFrom_106 : decode cX2_copyFrom 106 = .ok (.iload_n 2, 1) := by decide +kernel
theorem dX2_copyFrom_107 : decode cX2_copyFrom 107 = .ok (.aaload, 1) := by decide +kernel
theorem dX2_copyFrom_108 : decode cX2_copyFrom 108 = .ok (.invokevirtual 78, 3) := by decide +kernel
theorem dX2_copyFrom_111 : decode cX2_copyFrom 111 = .ok (.iinc 2 1, 3) := by decide +kernel
theorem dX2_copyFrom_114 : decode cX2_copyFrom 114 = .ok (.goto (-26), 3) := by decide +kernel
theorem dX2_copyFrom_117 : decode cX2_copyFrom 117 = .ok (.iconst 0, 1) := by decide +kernel
theorem dX2_copyFrom_118 : decode cX2_copyFrom 118 = .ok (.istore_n 2, 1) := by decide +kernel
theorem dX2_copyFrom_119 : decode cX2_copyFrom 119 = .ok (.iload_n 2, 1) := by decide +kernel
theorem dX2_copyFrom_120 : decode cX2_copyFrom 120 = .ok (.aload_n 0, 1) := by decide +kernel
theorem dX2_copyFrom_121 : decode cX2_copyFrom 121 = .ok (.getfield 53, 3) := by decide +kernel
theorem dX2_copyFrom_124 : decode cX2_copyFrom 124 = .ok (.if_icmp .ge 24, 3) := by decide +kernel
theorem dX2_copyFrom_127 : decode cX2_copyFrom 127 = .ok (.aload_n 0, 1) := by decide +kernel
theorem dX2_copyFrom_128 : decode cX2_copyFrom 128 = .ok (.getfield 19, 3) := by decide +kernel
theorem dX2_copyFrom_131 : decode cX2_copyFrom 131 = .ok (.iload_n 2, 1) := by decide +kernel
theorem dX2_copyFrom_132 : decode cX2_copyFrom 132 = .ok (.aaload, 1) := by decide +kernel
theorem dX2_copyFrom_133 : decode cX2_copyFrom 133 = .ok (.aload_n 1, 1) := by decide +kernel
theorem dX2_copyFrom_134 : decode cX2_copyFrom 134 = .ok (.getfield 19, 3) := by decide +kernel
theorem dX2_copyFrom_137 : decode cX2_copyFrom 137 = .ok (.iload_n 2, 1) := by decide +kernel
theorem dX2_copyFrom_138 : decode cX2_copyFrom 138 = .ok (.aaload, 1) := by decide +kernel
theorem dX2_copyFrom_139 : decode cX2_copyFrom 139 = .ok (.invokevirtual 81, 3) := by decide +kernel
theorem dX2_copyFrom_142 : decode cX2_copyFrom 142 = .ok (.iinc 2 1, 3) := by decide +kernel
theorem dX2_copyFrom_145 : decode cX2_copyFrom 145 = .ok (.goto (-26), 3) := by decide +kernel
theorem dX2_copyFrom_148 : decode cX2_copyFrom 148 = .ok (.iconst 0, 1) := by decide +kernel
theorem dX2_copyFrom_149 : decode cX2_copyFrom 149 = .ok (.istore_n 2, 1) := by decide +kernel
theorem dX2_copyFrom_150 : decode cX2_copyFrom 150 = .ok (.iload_n 2, 1) := by decide +kernel
theorem dX2_copyFrom_151 : decode cX2_copyFrom 151 = .ok (.aload_n 0, 1) := by decide +kernel
theorem dX2_copyFrom_152 : decode cX2_copyFrom 152 = .ok (.getfield 56, 3) := by decide +kernel
theorem dX2_copyFrom_155 : decode cX2_copyFrom 155 = .ok (.if_icmp .ge 24, 3) := by decide +kernel
theorem dX2_copyFrom_158 : decode cX2_copyFrom 158 = .ok (.aload_n 0, 1) := by decide +kernel
theorem dX2_copyFrom_159 : decode cX2_copyFrom 159 = .ok (.getfield 25, 3) := by decide +kernel
theorem dX2_copyFrom_162 : decode cX2_copyFrom 162 = .ok (.iload_n 2, 1) := by decide +kernel
theorem dX2_copyFrom_163 : decode cX2_copyFrom 163 = .ok (.aaload, 1) := by decide +kernel
theorem dX2_copyFrom_164 : decode cX2_copyFrom 164 = .ok (.aload_n 1, 1) := by decide +kernel
theorem dX2_copyFrom_165 : decode cX2_copyFrom 165 = .ok (.getfield 25, 3) := by decide +kernel
theorem dX2_copyFrom_168 : decode cX2_copyFrom 168 = .ok (.iload_n 2, 1) := by decide +kernel
theorem dX2_copyFrom_169 : decode cX2_copyFrom 169 = .ok (.aaload, 1) := by decide +kernel
theorem dX2_copyFrom_170 : decode cX2_copyFrom 170 = .ok (.invokevirtual 84, 3) := by decide +kernel
theorem dX2_copyFrom_173 : decode cX2_copyFrom 173 = .ok (.iinc 2 1, 3) := by decide +kernel
theorem dX2_copyFrom_176 : decode cX2_copyFrom 176 = .ok (.goto (-26), 3) := by decide +kernel
theorem dX2_copyFrom_179 : decode cX2_copyFrom 179 = .ok (.return_, 1) := by decide +kernel
theorem dX2_clear_0 : decode cX2_clear 0 = .ok (.aload_n 0, 1) := by decide +kernel
theorem dX2_clear_1 : decode cX2_clear 1 = .ok (.iconst 0, 1) := by decide +kernel
theorem dX2_clear_2 : decode cX2_clear 2 = .ok (.putfield 50, 3) := by decide +kernel
theorem dX2_clear_5 : decode cX2_clear 5 = .ok (.aload_n 0, 1) := by decide +kernel
theorem dX2_clear_6 : decode cX2_clear 6 = .ok (.iconst 0, 1) := by decide +kernel
theorem dX2_clear_7 : decode cX2_clear 7 = .ok (.putfield 53, 3) := by decide +kernel
theorem dX2_clear_10 : decode cX2_clear 10 = .ok (.aload_n 0, 1) := by decide +kernel
theorem dX2_clear_11 : decode cX2_clear 11 = .ok (.iconst 0, 1) := by decide +kernel
theorem dX2_clear_12 : decode cX2_clear 12 = .ok (.putfield 56, 3) := by decide +kernel
theorem dX2_clear_15 : decode cX2_clear 15 = .ok (.aload_n 0, 1) := by decide +kernel
theorem dX2_clear_16 : decode cX2_clear 16 = .ok (.iconst (-1), 1) := by decide +kernel
theorem dX2_clear_17 : decode cX2_clear 17 = .ok (.putfield 43, 3) := by decide +kernel
theorem dX2_clear_20 : decode cX2_clear 20 = .ok (.aload_n 0, 1) := by decide +kernel
theorem dX2_clear_21 : decode cX2_clear 21 = .ok (.iconst 0, 1) := by decide +kernel
theorem dX2_clear_22 : decode cX2_clear 22 = .ok (.putfield 59, 3) := by decide +kernel
theorem dX2_clear_25 : decode cX2_clear 25 = .ok (.aload_n 0, 1) := by decide +kernel
theorem dX2_clear_26 : decode cX2_clear 26 = .ok (.iconst 0, 1) := by decide +kernel
theorem dX2_clear_27 : decode cX2_clear 27 = .ok (.putfield 62, 3) := by decide +kernel
theorem dX2_clear_30 : decode cX2_clear 30 = .ok (.aload_n 0, 1) := by decide +kernel
theorem dX2_clear_31 : decode cX2_clear 31 = .ok (.iconst 3, 1) := by decide +kernel
theorem dX2_clear_32 : decode cX2_clear 32 = .ok (.putfield 65, 3) := by decide +kernel
theorem dX2_clear_35 : decode cX2_clear 35 = .ok (.aload_n 0, 1) := by decide +kernel
theorem dX2_clear_36 : decode cX2_clear 36 = .ok (.bipush 6, 2) := by decide +kernel
theorem dX2_clear_38 : decode cX2_clear 38 = .ok (.putfield 68, 3) := by decide +kernel
theorem dX2_clear_41 : decode cX2_clear 41 = .ok (.aload_n 0, 1) := by decide +kernel
theorem dX2_clear_42 : decode cX2_clear 42 = .ok (.getfield 32, 3) := by decide +kernel
theorem dX2_clear_45 : decode cX2_clear 45 = .ok (.invokevirtual 87, 3) := by decide +kernel
theorem dX2_clear_48 : decode cX2_clear 48 = .ok (.aload_n 0, 1) := by decide +kernel
theorem dX2_clear_49 : decode cX2_clear 49 = .ok (.getfield 39, 3) := by decide +kernel
theorem dX2_clear_52 : decode cX2_clear 52 = .ok (.invokevirtual 90, 3) := by decide +kernel
theorem dX2_clear_55 : decode cX2_clear 55 = .ok (.return_, 1) := by decide +kernel
theorem dX2_begin_0 : decode cX2_begin 0 = .ok (.aload_n 0, 1) := by decide +kernel
theorem dX2_begin_1 : decode cX2_begin 1 = .ok (.getfield 39, 3) := by decide +kernel
theorem dX2_begin_4 : decode cX2_begin 4 = .ok (.aload_n 0, 1) := by decide +kernel
theorem dX2_begin_5 : decode cX2_begin 5 = .ok (.invokevirtual 91, 3) := by decide +kernel
theorem dX2_begin_8 : decode cX2_begin 8 = .ok (.putfield 95, 3) := by decide +kernel
theorem dX2_begin_11 : decode cX2_begin 11 = .ok (.aload_n 0, 1) := by decide +kernel
theorem dX2_begin_12 : decode cX2_begin 12 = .ok (.getfield 39, 3) := by decide +kernel
theorem dX2_begin_15 : decode cX2_begin 15 = .ok (.aload_n 0, 1) := by decide +kernel
theorem dX2_begin_16 : decode cX2_begin 16 = .ok (.invokevirtual 98, 3) := by decide +kernel
theorem dX2_begin_19 : decode cX2_begin 19 = .ok (.putfield 101, 3) := by decide +kernel
theorem dX2_begin_22 : decode cX2_begin 22 = .ok (.aload_n 0, 1) := by decide +kernel
theorem dX2_begin_23 : decode cX2_begin 23 = .ok (.aload_n 0, 1) := by decide +kernel
theorem dX2_begin_24 : decode cX2_begin 24 = .ok (.getfield 25, 3) := by decide +kernel
theorem dX2_begin_27 : decode cX2_begin 27 = .ok (.iconst 0, 1) := by decide +kernel
theorem dX2_begin_28 : decode cX2_begin 28 = .ok (.aaload, 1) := by decide +kernel
theorem dX2_begin_29 : decode cX2_begin 29 = .ok (.getfield 104, 3) := by decide +kernel
theorem dX2_begin_32 : decode cX2_begin 32 = .ok (.putfield 62, 3) := by decide +kernel
theorem dX2_begin_35 : decode cX2_begin 35 = .ok (.aload_n 0, 1) := by decide +kernel
theorem dX2_begin_36 : decode cX2_begin 36 = .ok (.aload_n 0, 1) := by decide +kernel
theorem dX2_begin_37 : decode cX2_begin 37 = .ok (.getfield 25, 3) := by decide +kernel
theorem dX2_begin_40 : decode cX2_begin 40 = .ok (.iconst 0, 1) := by decide +kernel
theorem dX2_begin_41 : decode cX2_begin 41 = .ok (.aaload, 1) := by decide +kernel
theorem dX2_begin_42 : decode cX2_begin 42 = .ok (.getfield 107, 3) := by decide +kernel
theorem dX2_begin_45 : decode cX2_begin 45 = .ok (.invokevirtual 110, 3) := by decide +kernel
theorem dX2_begin_48 : decode cX2_begin 48 = .ok (.return_, 1) := by decide +kernel
theorem dX2_allows_0 : decode cX2_allows 0 = .ok (.iload_n 1, 1) := by decide +kernel
theorem dX2_allows_1 : decode cX2_allows 1 = .ok (.tableswitch 144 0 5 #[39, 57, 75, 85, 107, 130], 39) := by decide +kernel
theorem dX2_allows_40 : decode cX2_allows 40 = .ok (.aload_n 0, 1) := by decide +kernel
theorem dX2_allows_41 : decode cX2_allows 41 = .ok (.getfield 68, 3) := by decide +kernel
theorem dX2_allows_44 : decode cX2_allows 44 = .ok (.iload_n 3, 1) := by decide +kernel
theorem dX2_allows_45 : decode cX2_allows 45 = .ok (.iadd, 1) := by decide +kernel
theorem dX2_allows_46 : decode cX2_allows 46 = .ok (.sipush 9999, 3) := by decide +kernel
theorem dX2_allows_49 : decode cX2_allows 49 = .ok (.if_icmp .gt 7, 3) := by decide +kernel
theorem dX2_allows_52 : decode cX2_allows 52 = .ok (.iconst 1, 1) := by decide +kernel
theorem dX2_allows_53 : decode cX2_allows 53 = .ok (.goto 4, 3) := by decide +kernel
theorem dX2_allows_56 : decode cX2_allows 56 = .ok (.iconst 0, 1) := by decide +kernel
theorem dX2_allows_57 : decode cX2_allows 57 = .ok (.ireturn, 1) := by decide +kernel
theorem dX2_allows_58 : decode cX2_allows 58 = .ok (.aload_n 0, 1) := by decide +kernel
theorem dX2_allows_59 : decode cX2_allows 59 = .ok (.getfield 19, 3) := by decide +kernel
theorem dX2_allows_62 : decode cX2_allows 62 = .ok (.iload_n 2, 1) := by decide +kernel
theorem dX2_allows_63 : decode cX2_allows 63 = .ok (.aaload, 1) := by decide +kernel
theorem dX2_allows_64 : decode cX2_allows 64 = .ok (.getfield 114, 3) := by decide +kernel
theorem dX2_allows_67 : decode cX2_allows 67 = .ok (.ifCond .ne 7, 3) := by decide +kernel
theorem dX2_allows_70 : decode cX2_allows 70 = .ok (.iconst 1, 1) := by decide +kernel
theorem dX2_allows_71 : decode cX2_allows 71 = .ok (.goto 4, 3) := by decide +kernel
theorem dX2_allows_74 : decode cX2_allows 74 = .ok (.iconst 0, 1) := by decide +kernel
theorem dX2_allows_75 : decode cX2_allows 75 = .ok (.ireturn, 1) := by decide +kernel
theorem dX2_allows_76 : decode cX2_allows 76 = .ok (.aload_n 0, 1) := by decide +kernel
theorem dX2_allows_77 : decode cX2_allows 77 = .ok (.getfield 19, 3) := by decide +kernel
theorem dX2_allows_80 : decode cX2_allows 80 = .ok (.iload_n 2, 1) := by decide +kernel
theorem dX2_allows_81 : decode cX2_allows 81 = .ok (.aaload, 1) := by decide +kernel
theorem dX2_allows_82 : decode cX2_allows 82 = .ok (.getfield 114, 3) := by decide +kernel
theorem dX2_allows_85 : decode cX2_allows 85 = .ok (.ireturn, 1) := by decide +kernel
theorem dX2_allows_86 : decode cX2_allows 86 = .ok (.aload_n 0, 1) := by decide +kernel
theorem dX2_allows_87 : decode cX2_allows 87 = .ok (.getfield 19, 3) := by decide +kernel
theorem dX2_allows_90 : decode cX2_allows 90 = .ok (.iload_n 2, 1) := by decide +kernel
theorem dX2_allows_91 : decode cX2_allows 91 = .ok (.aaload, 1) := by decide +kernel
theorem dX2_allows_92 : decode cX2_allows 92 = .ok (.getfield 118, 3) := by decide +kernel
theorem dX2_allows_95 : decode cX2_allows 95 = .ok (.iload_n 3, 1) := by decide +kernel
theorem dX2_allows_96 : decode cX2_allows 96 = .ok (.iadd, 1) := by decide +kernel
theorem dX2_allows_97 : decode cX2_allows 97 = .ok (.bipush 99, 2) := by decide +kernel
theorem dX2_allows_99 : decode cX2_allows 99 = .ok (.if_icmp .gt 7, 3) := by decide +kernel
theorem dX2_allows_102 : decode cX2_allows 102 = .ok (.iconst 1, 1) := by decide +kernel
theorem dX2_allows_103 : decode cX2_allows 103 = .ok (.goto 4, 3) := by decide +kernel
theorem dX2_allows_106 : decode cX2_allows 106 = .ok (.iconst 0, 1) := by decide +kernel
theorem dX2_allows_107 : decode cX2_allows 107 = .ok (.ireturn, 1) := by decide +kernel
theorem dX2_allows_108 : decode cX2_allows 108 = .ok (.aload_n 0, 1) := by decide +kernel
theorem dX2_allows_109 : decode cX2_allows 109 = .ok (.getfield 19, 3) := by decide +kernel
theorem dX2_allows_112 : decode cX2_allows 112 = .ok (.iload_n 2, 1) := by decide +kernel
theorem dX2_allows_113 : decode cX2_allows 113 = .ok (.aaload, 1) := by decide +kernel
theorem dX2_allows_114 : decode cX2_allows 114 = .ok (.getfield 121, 3) := by decide +kernel
theorem dX2_allows_117 : decode cX2_allows 117 = .ok (.iload_n 3, 1) := by decide +kernel
theorem dX2_allows_118 : decode cX2_allows 118 = .ok (.iadd, 1) := by decide +kernel
theorem dX2_allows_119 : decode cX2_allows 119 = .ok (.sipush 9999, 3) := by decide +kernel
theorem dX2_allows_122 : decode cX2_allows 122 = .ok (.if_icmp .gt 7, 3) := by decide +kernel
theorem dX2_allows_125 : decode cX2_allows 125 = .ok (.iconst 1, 1) := by decide +kernel
theorem dX2_allows_126 : decode cX2_allows 126 = .ok (.goto 4, 3) := by decide +kernel
theorem dX2_allows_129 : decode cX2_allows 129 = .ok (.iconst 0, 1) := by decide +kernel
theorem dX2_allows_130 : decode cX2_allows 130 = .ok (.ireturn, 1) := by decide +kernel
theorem dX2_allows_131 : decode cX2_allows 131 = .ok (.aload_n 0, 1) := by decide +kernel
theorem dX2_allows_132 : decode cX2_allows 132 = .ok (.getfield 43, 3) := by decide +kernel
theorem dX2_allows_135 : decode cX2_allows 135 = .ok (.iconst (-1), 1) := by decide +kernel
theorem dX2_allows_136 : decode cX2_allows 136 = .ok (.if_icmp .eq 7, 3) := by decide +kernel
theorem dX2_allows_139 : decode cX2_allows 139 = .ok (.iconst 1, 1) := by decide +kernel
theorem dX2_allows_140 : decode cX2_allows 140 = .ok (.goto 4, 3) := by decide +kernel
theorem dX2_allows_143 : decode cX2_allows 143 = .ok (.iconst 0, 1) := by decide +kernel
theorem dX2_allows_144 : decode cX2_allows 144 = .ok (.ireturn, 1) := by decide +kernel
theorem dX2_allows_145 : decode cX2_allows 145 = .ok (.iconst 1, 1) := by decide +kernel
theorem dX2_allows_146 : decode cX2_allows 146 = .ok (.ireturn, 1) := by decide +kernel
theorem dX2_apply_0 : decode cX2_apply 0 = .ok (.iload_n 1, 1) := by decide +kernel
theorem dX2_apply_1 : decode cX2_apply 1 = .ok (.tableswitch 165 0 5 #[39, 45, 60, 75, 113, 151], 39) := by decide +kernel
theorem dX2_apply_40 : decode cX2_apply 40 = .ok (.aload_n 0, 1) := by decide +kernel
theorem dX2_apply_41 : decode cX2_apply 41 = .ok (.iload_n 3, 1) := by decide +kernel
theorem dX2_apply_42 : decode cX2_apply 42 = .ok (.invokevirtual 124, 3) := by decide +kernel
theorem dX2_apply_45 : decode cX2_apply 45 = .ok (.ireturn, 1) := by decide +kernel
theorem dX2_apply_46 : decode cX2_apply 46 = .ok (.aload_n 0, 1) := by decide +kernel
theorem dX2_apply_47 : decode cX2_apply 47 = .ok (.getfield 19, 3) := by decide +kernel
theorem dX2_apply_50 : decode cX2_apply 50 = .ok (.iload_n 2, 1) := by decide +kernel
theorem dX2_apply_51 : decode cX2_apply 51 = .ok (.aaload, 1) := by decide +kernel
theorem dX2_apply_52 : decode cX2_apply 52 = .ok (.iconst 1, 1) := by decide +kernel
theorem dX2_apply_53 : decode cX2_apply 53 = .ok (.putfield 114, 3) := by decide +kernel
theorem dX2_apply_56 : decode cX2_apply 56 = .ok (.aload_n 0, 1) := by decide +kernel
theorem dX2_apply_57 : decode cX2_apply 57 = .ok (.invokevirtual 128, 3) := by decide +kernel
theorem dX2_apply_60 : decode cX2_apply 60 = .ok (.ireturn, 1) := by decide +kernel
theorem dX2_apply_61 : decode cX2_apply 61 = .ok (.aload_n 0, 1) := by decide +kernel
theorem dX2_apply_62 : decode cX2_apply 62 = .ok (.getfield 19, 3) := by decide +kernel
theorem dX2_apply_65 : decode cX2_apply 65 = .ok (.iload_n 2, 1) := by decide +kernel
theorem dX2_apply_66 : decode cX2_apply 66 = .ok (.aaload, 1) := by decide +kernel
theorem dX2_apply_67 : decode cX2_apply 67 = .ok (.iconst 0, 1) := by decide +kernel
theorem dX2_apply_68 : decode cX2_apply 68 = .ok (.putfield 114, 3) := by decide +kernel
theorem dX2_apply_71 : decode cX2_apply 71 = .ok (.aload_n 0, 1) := by decide +kernel
theorem dX2_apply_72 : decode cX2_apply 72 = .ok (.invokevirtual 128, 3) := by decide +kernel
theorem dX2_apply_75 : decode cX2_apply 75 = .ok (.ireturn, 1) := by decide +kernel
theorem dX2_apply_76 : decode cX2_apply 76 = .ok (.aload_n 0, 1) := by decide +kernel
theorem dX2_apply_77 : decode cX2_apply 77 = .ok (.getfield 19, 3) := by decide +kernel
theorem dX2_apply_80 : decode cX2_apply 80 = .ok (.iload_n 2, 1) := by decide +kernel
theorem dX2_apply_81 : decode cX2_apply 81 = .ok (.aaload, 1) := by decide +kernel
theorem dX2_apply_82 : decode cX2_apply 82 = .ok (.dup, 1) := by decide +kernel
theorem dX2_apply_83 : decode cX2_apply 83 = .ok (.getfield 118, 3) := by decide +kernel
theorem dX2_apply_86 : decode cX2_apply 86 = .ok (.iload_n 3, 1) := by decide +kernel
theorem dX2_apply_87 : decode cX2_apply 87 = .ok (.iadd, 1) := by decide +kernel
theorem dX2_apply_88 : decode cX2_apply 88 = .ok (.putfield 118, 3) := by decide +kernel
theorem dX2_apply_91 : decode cX2_apply 91 = .ok (.aload_n 0, 1) := by decide +kernel
theorem dX2_apply_92 : decode cX2_apply 92 = .ok (.getfield 39, 3) := by decide +kernel
theorem dX2_apply_95 : decode cX2_apply 95 = .ok (.dup, 1) := by decide +kernel
theorem dX2_apply_96 : decode cX2_apply 96 = .ok (.getfield 95, 3) := by decide +kernel
theorem dX2_apply_99 : decode cX2_apply 99 = .ok (.iload_n 3, 1) := by decide +kernel
theorem dX2_apply_100 : decode cX2_apply 100 = .ok (.iadd, 1) := by decide +kernel
theorem dX2_apply_101 : decode cX2_apply 101 = .ok (.putfield 95, 3) := by decide +kernel
theorem dX2_apply_104 : decode cX2_apply 104 = .ok (.aload_n 0, 1) := by decide +kernel
theorem dX2_apply_105 : decode cX2_apply 105 = .ok (.getfield 19, 3) := by decide +kernel
theorem dX2_apply_108 : decode cX2_apply 108 = .ok (.iload_n 2, 1) := by decide +kernel
theorem dX2_apply_109 : decode cX2_apply 109 = .ok (.aaload, 1) := by decide +kernel
theorem dX2_apply_110 : decode cX2_apply 110 = .ok (.getfield 118, 3) := by decide +kernel
theorem dX2_apply_113 : decode cX2_apply 113 = .ok (.ireturn, 1) := by decide +kernel
theorem dX2_apply_114 : decode cX2_apply 114 = .ok (.aload_n 0, 1) := by decide +kernel
theorem dX2_apply_115 : decode cX2_apply 115 = .ok (.getfield 19, 3) := by decide +kernel
theorem dX2_apply_118 : decode cX2_apply 118 = .ok (.iload_n 2, 1) := by decide +kernel
theorem dX2_apply_119 : decode cX2_apply 119 = .ok (.aaload, 1) := by decide +kernel
theorem dX2_apply_120 : decode cX2_apply 120 = .ok (.dup, 1) := by decide +kernel
theorem dX2_apply_121 : decode cX2_apply 121 = .ok (.getfield 121, 3) := by decide +kernel
theorem dX2_apply_124 : decode cX2_apply 124 = .ok (.iload_n 3, 1) := by decide +kernel
theorem dX2_apply_125 : decode cX2_apply 125 = .ok (.iadd, 1) := by decide +kernel
theorem dX2_apply_126 : decode cX2_apply 126 = .ok (.putfield 121, 3) := by decide +kernel
theorem dX2_apply_129 : decode cX2_apply 129 = .ok (.aload_n 0, 1) := by decide +kernel
theorem dX2_apply_130 : decode cX2_apply 130 = .ok (.getfield 39, 3) := by decide +kernel
theorem dX2_apply_133 : decode cX2_apply 133 = .ok (.dup, 1) := by decide +kernel
theorem dX2_apply_134 : decode cX2_apply 134 = .ok (.getfield 101, 3) := by decide +kernel
theorem dX2_apply_137 : decode cX2_apply 137 = .ok (.iload_n 3, 1) := by decide +kernel
theorem dX2_apply_138 : decode cX2_apply 138 = .ok (.iadd, 1) := by decide +kernel
theorem dX2_apply_139 : decode cX2_apply 139 = .ok (.putfield 101, 3) := by decide +kernel
theorem dX2_apply_142 : decode cX2_apply 142 = .ok (.aload_n 0, 1) := by decide +kernel
theorem dX2_apply_143 : decode cX2_apply 143 = .ok (.getfield 19, 3) := by decide +kernel
theorem dX2_apply_146 : decode cX2_apply 146 = .ok (.iload_n 2, 1) := by decide +kernel
theorem dX2_apply_147 : decode cX2_apply 147 = .ok (.aaload, 1) := by decide +kernel
theorem dX2_apply_148 : decode cX2_apply 148 = .ok (.getfield 121, 3) := by decide +kernel
theorem dX2_apply_151 : decode cX2_apply 151 = .ok (.ireturn, 1) := by decide +kernel
theorem dX2_apply_152 : decode cX2_apply 152 = .ok (.aload_n 0, 1) := by decide +kernel
theorem dX2_apply_153 : decode cX2_apply 153 = .ok (.getfield 43, 3) := by decide +kernel
theorem dX2_apply_156 : decode cX2_apply 156 = .ok (.istore 4, 2) := by decide +kernel
theorem dX2_apply_158 : decode cX2_apply 158 = .ok (.aload_n 0, 1) := by decide +kernel
theorem dX2_apply_159 : decode cX2_apply 159 = .ok (.iconst (-1), 1) := by decide +kernel
theorem dX2_apply_160 : decode cX2_apply 160 = .ok (.putfield 43, 3) := by decide +kernel
theorem dX2_apply_163 : decode cX2_apply 163 = .ok (.iload 4, 2) := by decide +kernel
theorem dX2_apply_165 : decode cX2_apply 165 = .ok (.ireturn, 1) := by decide +kernel
theorem dX2_apply_166 : decode cX2_apply 166 = .ok (.aload_n 0, 1) := by decide +kernel
theorem dX2_apply_167 : decode cX2_apply 167 = .ok (.getfield 65, 3) := by decide +kernel
theorem dX2_apply_170 : decode cX2_apply 170 = .ok (.istore 5, 2) := by decide +kernel
theorem dX2_apply_172 : decode cX2_apply 172 = .ok (.aload_n 0, 1) := by decide +kernel
theorem dX2_apply_173 : decode cX2_apply 173 = .ok (.iload_n 3, 1) := by decide +kernel
theorem dX2_apply_174 : decode cX2_apply 174 = .ok (.putfield 65, 3) := by decide +kernel
theorem dX2_apply_177 : decode cX2_apply 177 = .ok (.iload 5, 2) := by decide +kernel
theorem dX2_apply_179 : decode cX2_apply 179 = .ok (.ireturn, 1) := by decide +kernel
theorem dX2_passHours_0 : decode cX2_passHours 0 = .ok (.aload_n 0, 1) := by decide +kernel
theorem dX2_passHours_1 : decode cX2_passHours 1 = .ok (.getfield 39, 3) := by decide +kernel
theorem dX2_passHours_4 : decode cX2_passHours 4 = .ok (.getfield 131, 3) := by decide +kernel
theorem dX2_passHours_7 : decode cX2_passHours 7 = .ok (.istore_n 2, 1) := by decide +kernel
theorem dX2_passHours_8 : decode cX2_passHours 8 = .ok (.iconst 0, 1) := by decide +kernel
theorem dX2_passHours_9 : decode cX2_passHours 9 = .ok (.istore_n 3, 1) := by decide +kernel
theorem dX2_passHours_10 : decode cX2_passHours 10 = .ok (.iload_n 3, 1) := by decide +kernel
theorem dX2_passHours_11 : decode cX2_passHours 11 = .ok (.iload_n 1, 1) := by decide +kernel
theorem dX2_passHours_12 : decode cX2_passHours 12 = .ok (.if_icmp .ge 13, 3) := by decide +kernel
theorem dX2_passHours_15 : decode cX2_passHours 15 = .ok (.aload_n 0, 1) := by decide +kernel
theorem dX2_passHours_16 : decode cX2_passHours 16 = .ok (.invokevirtual 134, 3) := by decide +kernel
theorem dX2_passHours_19 : decode cX2_passHours 19 = .ok (.iinc 3 1, 3) := by decide +kernel
theorem dX2_passHours_22 : decode cX2_passHours 22 = .ok (.goto (-12), 3) := by decide +kernel
theorem dX2_passHours_25 : decode cX2_passHours 25 = .ok (.aload_n 0, 1) := by decide +kernel
theorem dX2_passHours_26 : decode cX2_passHours 26 = .ok (.getfield 39, 3) := by decide +kernel
theorem dX2_passHours_29 : decode cX2_passHours 29 = .ok (.getfield 131, 3) := by decide +kernel
theorem dX2_passHours_32 : decode cX2_passHours 32 = .ok (.iload_n 2, 1) := by decide +kernel
theorem dX2_passHours_33 : decode cX2_passHours 33 = .ok (.isub, 1) := by decide +kernel
theorem dX2_passHours_34 : decode cX2_passHours 34 = .ok (.ireturn, 1) := by decide +kernel
theorem dX2_passHour_0 : decode cX2_passHour 0 = .ok (.aload_n 0, 1) := by decide +kernel
theorem dX2_passHour_1 : decode cX2_passHour 1 = .ok (.dup, 1) := by decide +kernel
theorem dX2_passHour_2 : decode cX2_passHour 2 = .ok (.getfield 68, 3) := by decide +kernel
theorem dX2_passHour_5 : decode cX2_passHour 5 = .ok (.iconst 1, 1) := by decide +kernel
theorem dX2_passHour_6 : decode cX2_passHour 6 = .ok (.iadd, 1) := by decide +kernel
theorem dX2_passHour_7 : decode cX2_passHour 7 = .ok (.putfield 68, 3) := by decide +kernel
theorem dX2_passHour_10 : decode cX2_passHour 10 = .ok (.iconst 0, 1) := by decide +kernel
theorem dX2_passHour_11 : decode cX2_passHour 11 = .ok (.istore_n 1, 1) := by decide +kernel
theorem dX2_passHour_12 : decode cX2_passHour 12 = .ok (.iload_n 1, 1) := by decide +kernel
theorem dX2_passHour_13 : decode cX2_passHour 13 = .ok (.aload_n 0, 1) := by decide +kernel
theorem dX2_passHour_14 : decode cX2_passHour 14 = .ok (.getfield 53, 3) := by decide +kernel
theorem dX2_passHour_17 : decode cX2_passHour 17 = .ok (.if_icmp .ge 14, 3) := by decide +kernel
theorem dX2_passHour_20 : decode cX2_passHour 20 = .ok (.aload_n 0, 1) := by decide +kernel
theorem dX2_passHour_21 : decode cX2_passHour 21 = .ok (.iload_n 1, 1) := by decide +kernel
theorem dX2_passHour_22 : decode cX2_passHour 22 = .ok (.invokevirtual 137, 3) := by decide +kernel
theorem dX2_passHour_25 : decode cX2_passHour 25 = .ok (.iinc 1 1, 3) := by decide +kernel
theorem dX2_passHour_28 : decode cX2_passHour 28 = .ok (.goto (-16), 3) := by decide +kernel
theorem dX2_passHour_31 : decode cX2_passHour 31 = .ok (.aload_n 0, 1) := by decide +kernel
theorem dX2_passHour_32 : decode cX2_passHour 32 = .ok (.getfield 68, 3) := by decide +kernel
theorem dX2_passHour_35 : decode cX2_passHour 35 = .ok (.bipush 24, 2) := by decide +kernel
theorem dX2_passHour_37 : decode cX2_passHour 37 = .ok (.irem, 1) := by decide +kernel
theorem dX2_passHour_38 : decode cX2_passHour 38 = .ok (.ifCond .ne 7, 3) := by decide +kernel
theorem dX2_passHour_41 : decode cX2_passHour 41 = .ok (.aload_n 0, 1) := by decide +kernel
theorem dX2_passHour_42 : decode cX2_passHour 42 = .ok (.invokevirtual 140, 3) := by decide +kernel
theorem dX2_passHour_45 : decode cX2_passHour 45 = .ok (.aload_n 0, 1) := by decide +kernel
theorem dX2_passHour_46 : decode cX2_passHour 46 = .ok (.invokevirtual 143, 3) := by decide +kernel
theorem dX2_passHour_49 : decode cX2_passHour 49 = .ok (.istore_n 1, 1) := by decide +kernel
theorem dX2_passHour_50 : decode cX2_passHour 50 = .ok (.aload_n 0, 1) := by decide +kernel
theorem dX2_passHour_51 : decode cX2_passHour 51 = .ok (.iload_n 1, 1) := by decide +kernel
theorem dX2_passHour_52 : decode cX2_passHour 52 = .ok (.invokevirtual 146, 3) := by decide +kernel
theorem dX2_passHour_55 : decode cX2_passHour 55 = .ok (.aload_n 0, 1) := by decide +kernel
theorem dX2_passHour_56 : decode cX2_passHour 56 = .ok (.dup, 1) := by decide +kernel
theorem dX2_passHour_57 : decode cX2_passHour 57 = .ok (.getfield 62, 3) := by decide +kernel
theorem dX2_passHour_60 : decode cX2_passHour 60 = .ok (.iconst 1, 1) := by decide +kernel
theorem dX2_passHour_61 : decode cX2_passHour 61 = .ok (.isub, 1) := by decide +kernel
theorem dX2_passHour_62 : decode cX2_passHour 62 = .ok (.putfield 62, 3) := by decide +kernel
theorem dX2_passHour_65 : decode cX2_passHour 65 = .ok (.aload_n 0, 1) := by decide +kernel
theorem dX2_passHour_66 : decode cX2_passHour 66 = .ok (.getfield 62, 3) := by decide +kernel
theorem dX2_passHour_69 : decode cX2_passHour 69 = .ok (.ifCond .gt 7, 3) := by decide +kernel
theorem dX2_passHour_72 : decode cX2_passHour 72 = .ok (.aload_n 0, 1) := by decide +kernel
theorem dX2_passHour_73 : decode cX2_passHour 73 = .ok (.invokevirtual 149, 3) := by decide +kernel
theorem dX2_passHour_76 : decode cX2_passHour 76 = .ok (.aload_n 0, 1) := by decide +kernel
theorem dX2_passHour_77 : decode cX2_passHour 77 = .ok (.getfield 68, 3) := by decide +kernel
theorem dX2_passHour_80 : decode cX2_passHour 80 = .ok (.bipush 24, 2) := by decide +kernel
theorem dX2_passHour_82 : decode cX2_passHour 82 = .ok (.irem, 1) := by decide +kernel
theorem dX2_passHour_83 : decode cX2_passHour 83 = .ok (.bipush 6, 2) := by decide +kernel
theorem dX2_passHour_85 : decode cX2_passHour 85 = .ok (.if_icmp .ne 7, 3) := by decide +kernel
theorem dX2_passHour_88 : decode cX2_passHour 88 = .ok (.aload_n 0, 1) := by decide +kernel
theorem dX2_passHour_89 : decode cX2_passHour 89 = .ok (.invokevirtual 152, 3) := by decide +kernel
theorem dX2_passHour_92 : decode cX2_passHour 92 = .ok (.return_, 1) := by decide +kernel
theorem dX2_feedMice_0 : decode cX2_feedMice 0 = .ok (.aload_n 0, 1) := by decide +kernel
theorem dX2_feedMice_1 : decode cX2_feedMice 1 = .ok (.getfield 19, 3) := by decide +kernel
theorem dX2_feedMice_4 : decode cX2_feedMice 4 = .ok (.iload_n 1, 1) := by decide +kernel
theorem dX2_feedMice_5 : decode cX2_feedMice 5 = .ok (.aaload, 1) := by decide +kernel
theorem dX2_feedMice_6 : decode cX2_feedMice 6 = .ok (.astore_n 2, 1) := by decide +kernel
theorem dX2_feedMice_7 : decode cX2_feedMice 7 = .ok (.aload_n 2, 1) := by decide +kernel
theorem dX2_feedMice_8 : decode cX2_feedMice 8 = .ok (.getfield 118, 3) := by decide +kernel
theorem dX2_feedMice_11 : decode cX2_feedMice 11 = .ok (.aload_n 2, 1) := by decide +kernel
theorem dX2_feedMice_12 : decode cX2_feedMice 12 = .ok (.getfield 121, 3) := by decide +kernel
theorem dX2_feedMice_15 : decode cX2_feedMice 15 = .ok (.invokestatic 155, 3) := by decide +kernel
theorem dX2_feedMice_18 : decode cX2_feedMice 18 = .ok (.istore_n 3, 1) := by decide +kernel
theorem dX2_feedMice_19 : decode cX2_feedMice 19 = .ok (.aload_n 2, 1) := by decide +kernel
theorem dX2_feedMice_20 : decode cX2_feedMice 20 = .ok (.dup, 1) := by decide +kernel
theorem dX2_feedMice_21 : decode cX2_feedMice 21 = .ok (.getfield 121, 3) := by decide +kernel
theorem dX2_feedMice_24 : decode cX2_feedMice 24 = .ok (.iload_n 3, 1) := by decide +kernel
theorem dX2_feedMice_25 : decode cX2_feedMice 25 = .ok (.isub, 1) := by decide +kernel
theorem dX2_feedMice_26 : decode cX2_feedMice 26 = .ok (.putfield 121, 3) := by decide +kernel
theorem dX2_feedMice_29 : decode cX2_feedMice 29 = .ok (.aload_n 2, 1) := by decide +kernel
theorem dX2_feedMice_30 : decode cX2_feedMice 30 = .ok (.dup, 1) := by decide +kernel
theorem dX2_feedMice_31 : decode cX2_feedMice 31 = .ok (.getfield 161, 3) := by decide +kernel
theorem dX2_feedMice_34 : decode cX2_feedMice 34 = .ok (.iload_n 3, 1) := by decide +kernel
theorem dX2_feedMice_35 : decode cX2_feedMice 35 = .ok (.iadd, 1) := by decide +kernel
theorem dX2_feedMice_36 : decode cX2_feedMice 36 = .ok (.putfield 161, 3) := by decide +kernel
theorem dX2_feedMice_39 : decode cX2_feedMice 39 = .ok (.aload_n 0, 1) := by decide +kernel
theorem dX2_feedMice_40 : decode cX2_feedMice 40 = .ok (.getfield 39, 3) := by decide +kernel
theorem dX2_feedMice_43 : decode cX2_feedMice 43 = .ok (.dup, 1) := by decide +kernel
theorem dX2_feedMice_44 : decode cX2_feedMice 44 = .ok (.getfield 164, 3) := by decide +kernel
theorem dX2_feedMice_47 : decode cX2_feedMice 47 = .ok (.iload_n 3, 1) := by decide +kernel
theorem dX2_feedMice_48 : decode cX2_feedMice 48 = .ok (.iadd, 1) := by decide +kernel
theorem dX2_feedMice_49 : decode cX2_feedMice 49 = .ok (.putfield 164, 3) := by decide +kernel
theorem dX2_feedMice_52 : decode cX2_feedMice 52 = .ok (.aload_n 2, 1) := by decide +kernel
theorem dX2_feedMice_53 : decode cX2_feedMice 53 = .ok (.getfield 118, 3) := by decide +kernel
theorem dX2_feedMice_56 : decode cX2_feedMice 56 = .ok (.ifCond .eq 10, 3) := by decide +kernel
theorem dX2_feedMice_59 : decode cX2_feedMice 59 = .ok (.aload_n 2, 1) := by decide +kernel
theorem dX2_feedMice_60 : decode cX2_feedMice 60 = .ok (.getfield 121, 3) := by decide +kernel
theorem dX2_feedMice_63 : decode cX2_feedMice 63 = .ok (.ifCond .le 4, 3) := by decide +kernel
theorem dX2_feedMice_66 : decode cX2_feedMice 66 = .ok (.return_, 1) := by decide +kernel
theorem dX2_feedMice_67 : decode cX2_feedMice 67 = .ok (.aload_n 2, 1) := by decide +kernel
theorem dX2_feedMice_68 : decode cX2_feedMice 68 = .ok (.getfield 114, 3) := by decide +kernel
theorem dX2_feedMice_71 : decode cX2_feedMice 71 = .ok (.ifCond .eq 11, 3) := by decide +kernel
theorem dX2_feedMice_74 : decode cX2_feedMice 74 = .ok (.aload_n 0, 1) := by decide +kernel
theorem dX2_feedMice_75 : decode cX2_feedMice 75 = .ok (.iload_n 1, 1) := by decide +kernel
theorem dX2_feedMice_76 : decode cX2_feedMice 76 = .ok (.invokevirtual 165, 3) := by decide +kernel
theorem dX2_feedMice_79 : decode cX2_feedMice 79 = .ok (.goto 4, 3) := by decide +kernel
theorem dX2_feedMice_82 : decode cX2_feedMice 82 = .ok (.iconst (-1), 1) := by decide +kernel
theorem dX2_feedMice_83 : decode cX2_feedMice 83 = .ok (.istore 4, 2) := by decide +kernel
theorem dX2_feedMice_85 : decode cX2_feedMice 85 = .ok (.iload 4, 2) := by decide +kernel
theorem dX2_feedMice_87 : decode cX2_feedMice 87 = .ok (.iconst (-1), 1) := by decide +kernel
theorem dX2_feedMice_88 : decode cX2_feedMice 88 = .ok (.if_icmp .ne 19, 3) := by decide +kernel
theorem dX2_feedMice_91 : decode cX2_feedMice 91 = .ok (.aload_n 0, 1) := by decide +kernel
theorem dX2_feedMice_92 : decode cX2_feedMice 92 = .ok (.aload_n 2, 1) := by decide +kernel
theorem dX2_feedMice_93 : decode cX2_feedMice 93 = .ok (.aload_n 2, 1) := by decide +kernel
theorem dX2_feedMice_94 : decode cX2_feedMice 94 = .ok (.getfield 118, 3) := by decide +kernel
theorem dX2_feedMice_97 : decode cX2_feedMice 97 = .ok (.iconst 1, 1) := by decide +kernel
theorem dX2_feedMice_98 : decode cX2_feedMice 98 = .ok (.iadd, 1) := by decide +kernel
theorem dX2_feedMice_99 : decode cX2_feedMice 99 = .ok (.iconst 2, 1) := by decide +kernel
theorem dX2_feedMice_100 : decode cX2_feedMice 100 = .ok (.idiv, 1) := by decide +kernel
theorem dX2_feedMice_101 : decode cX2_feedMice 101 = .ok (.invokevirtual 168, 3) := by decide +kernel
theorem dX2_feedMice_104 : decode cX2_feedMice 104 = .ok (.goto 55, 3) := by decide +kernel
theorem dX2_feedMice_107 : decode cX2_feedMice 107 = .ok (.aload_n 0, 1) := by decide +kernel
theorem dX2_feedMice_108 : decode cX2_feedMice 108 = .ok (.getfield 19, 3) := by decide +kernel
theorem dX2_feedMice_111 : decode cX2_feedMice 111 = .ok (.iload 4, 2) := by decide +kernel
theorem dX2_feedMice_113 : decode cX2_feedMice 113 = .ok (.aaload, 1) := by decide +kernel
theorem dX2_feedMice_114 : decode cX2_feedMice 114 = .ok (.dup, 1) := by decide +kernel
theorem dX2_feedMice_115 : decode cX2_feedMice 115 = .ok (.getfield 118, 3) := by decide +kernel
theorem dX2_feedMice_118 : decode cX2_feedMice 118 = .ok (.aload_n 2, 1) := by decide +kernel
theorem dX2_feedMice_119 : decode cX2_feedMice 119 = .ok (.getfield 118, 3) := by decide +kernel
theorem dX2_feedMice_122 : decode cX2_feedMice 122 = .ok (.iadd, 1) := by decide +kernel
theorem dX2_feedMice_123 : decode cX2_feedMice 123 = .ok (.putfield 118, 3) := by decide +kernel
theorem dX2_feedMice_126 : decode cX2_feedMice 126 = .ok (.aload_n 2, 1) := by decide +kernel
theorem dX2_feedMice_127 : decode cX2_feedMice 127 = .ok (.iconst 0, 1) := by decide +kernel
theorem dX2_feedMice_128 : decode cX2_feedMice 128 = .ok (.putfield 118, 3) := by decide +kernel
theorem dX2_feedMice_131 : decode cX2_feedMice 131 = .ok (.aload_n 0, 1) := by decide +kernel
theorem dX2_feedMice_132 : decode cX2_feedMice 132 = .ok (.aload_n 0, 1) := by decide +kernel
theorem dX2_feedMice_133 : decode cX2_feedMice 133 = .ok (.getfield 19, 3) := by decide +kernel
theorem dX2_feedMice_136 : decode cX2_feedMice 136 = .ok (.iload 4, 2) := by decide +kernel
theorem dX2_feedMice_138 : decode cX2_feedMice 138 = .ok (.aaload, 1) := by decide +kernel
theorem dX2_feedMice_139 : decode cX2_feedMice 139 = .ok (.aload_n 0, 1) := by decide +kernel
theorem dX2_feedMice_140 : decode cX2_feedMice 140 = .ok (.getfield 19, 3) := by decide +kernel
theorem dX2_feedMice_143 : decode cX2_feedMice 143 = .ok (.iload 4, 2) := by decide +kernel
theorem dX2_feedMice_145 : decode cX2_feedMice 145 = .ok (.aaload, 1) := by decide +kernel
theorem dX2_feedMice_146 : decode cX2_feedMice 146 = .ok (.getfield 118, 3) := by decide +kernel
theorem dX2_feedMice_149 : decode cX2_feedMice 149 = .ok (.bipush 99, 2) := by decide +kernel
theorem dX2_feedMice_151 : decode cX2_feedMice 151 = .ok (.isub, 1) := by decide +kernel
theorem dX2_feedMice_152 : decode cX2_feedMice 152 = .ok (.iconst 0, 1) := by decide +kernel
theorem dX2_feedMice_153 : decode cX2_feedMice 153 = .ok (.invokestatic 172, 3) := by decide +kernel
theorem dX2_feedMice_156 : decode cX2_feedMice 156 = .ok (.invokevirtual 168, 3) := by decide +kernel
theorem dX2_feedMice_159 : decode cX2_feedMice 159 = .ok (.return_, 1) := by decide +kernel
theorem dX2_nextOpenSack_0 : decode cX2_nextOpenSack 0 = .ok (.iconst 1, 1) := by decide +kernel
theorem dX2_nextOpenSack_1 : decode cX2_nextOpenSack 1 = .ok (.istore_n 2, 1) := by decide +kernel
theorem dX2_nextOpenSack_2 : decode cX2_nextOpenSack 2 = .ok (.iload_n 2, 1) := by decide +kernel
theorem dX2_nextOpenSack_3 : decode cX2_nextOpenSack 3 = .ok (.aload_n 0, 1) := by decide +kernel
theorem dX2_nextOpenSack_4 : decode cX2_nextOpenSack 4 = .ok (.getfield 53, 3) := by decide +kernel
theorem dX2_nextOpenSack_7 : decode cX2_nextOpenSack 7 = .ok (.if_icmp .ge 32, 3) := by decide +kernel
theorem dX2_nextOpenSack_10 : decode cX2_nextOpenSack 10 = .ok (.iload_n 1, 1) := by decide +kernel
theorem dX2_nextOpenSack_11 : decode cX2_nextOpenSack 11 = .ok (.iload_n 2, 1) := by decide +kernel
theorem dX2_nextOpenSack_12 : decode cX2_nextOpenSack 12 = .ok (.iadd, 1) := by decide +kernel
theorem dX2_nextOpenSack_13 : decode cX2_nextOpenSack 13 = .ok (.aload_n 0, 1) := by decide +kernel
theorem dX2_nextOpenSack_14 : decode cX2_nextOpenSack 14 = .ok (.getfield 53, 3) := by decide +kernel
theorem dX2_nextOpenSack_17 : decode cX2_nextOpenSack 17 = .ok (.irem, 1) := by decide +kernel
theorem dX2_nextOpenSack_18 : decode cX2_nextOpenSack 18 = .ok (.istore_n 3, 1) := by decide +kernel
theorem dX2_nextOpenSack_19 : decode cX2_nextOpenSack 19 = .ok (.aload_n 0, 1) := by decide +kernel
theorem dX2_nextOpenSack_20 : decode cX2_nextOpenSack 20 = .ok (.getfield 19, 3) := by decide +kernel
theorem dX2_nextOpenSack_23 : decode cX2_nextOpenSack 23 = .ok (.iload_n 3, 1) := by decide +kernel
theorem dX2_nextOpenSack_24 : decode cX2_nextOpenSack 24 = .ok (.aaload, 1) := by decide +kernel
theorem dX2_nextOpenSack_25 : decode cX2_nextOpenSack 25 = .ok (.getfield 114, 3) := by decide +kernel
theorem dX2_nextOpenSack_28 : decode cX2_nextOpenSack 28 = .ok (.ifCond .eq 5, 3) := by decide +kernel
theorem dX2_nextOpenSack_31 : decode cX2_nextOpenSack 31 = .ok (.iload_n 3, 1) := by decide +kernel
theorem dX2_nextOpenSack_32 : decode cX2_nextOpenSack 32 = .ok (.ireturn, 1) := by decide +kernel
theorem dX2_nextOpenSack_33 : decode cX2_nextOpenSack 33 = .ok (.iinc 2 1, 3) := by decide +kernel
theorem dX2_nextOpenSack_36 : decode cX2_nextOpenSack 36 = .ok (.goto (-34), 3) := by decide +kernel
theorem dX2_nextOpenSack_39 : decode cX2_nextOpenSack 39 = .ok (.iconst (-1), 1) := by decide +kernel
theorem dX2_nextOpenSack_40 : decode cX2_nextOpenSack 40 = .ok (.ireturn, 1) := by decide +kernel
theorem dX2_starve_0 : decode cX2_starve 0 = .ok (.aload_n 1, 1) := by decide +kernel
theorem dX2_starve_1 : decode cX2_starve 1 = .ok (.dup, 1) := by decide +kernel
theorem dX2_starve_2 : decode cX2_starve 2 = .ok (.getfield 118, 3) := by decide +kernel
theorem dX2_starve_5 : decode cX2_starve 5 = .ok (.iload_n 2, 1) := by decide +kernel
theorem dX2_starve_6 : decode cX2_starve 6 = .ok (.isub, 1) := by decide +kernel
theorem dX2_starve_7 : decode cX2_starve 7 = .ok (.putfield 118, 3) := by decide +kernel
theorem dX2_starve_10 : decode cX2_starve 10 = .ok (.aload_n 0, 1) := by decide +kernel
theorem dX2_starve_11 : decode cX2_starve 11 = .ok (.getfield 39, 3) := by decide +kernel
theorem dX2_starve_14 : decode cX2_starve 14 = .ok (.dup, 1) := by decide +kernel
theorem dX2_starve_15 : decode cX2_starve 15 = .ok (.getfield 175, 3) := by decide +kernel
theorem dX2_starve_18 : decode cX2_starve 18 = .ok (.iload_n 2, 1) := by decide +kernel
theorem dX2_starve_19 : decode cX2_starve 19 = .ok (.iadd, 1) := by decide +kernel
theorem dX2_starve_20 : decode cX2_starve 20 = .ok (.putfield 175, 3) := by decide +kernel
theorem dX2_starve_23 : decode cX2_starve 23 = .ok (.return_, 1) := by decide +kernel
theorem dX2_growMice_0 : decode cX2_growMice 0 = .ok (.iconst 0, 1) := by decide +kernel
theorem dX2_growMice_1 : decode cX2_growMice 1 = .ok (.istore_n 1, 1) := by decide +kernel
theorem dX2_growMice_2 : decode cX2_growMice 2 = .ok (.iload_n 1, 1) := by decide +kernel
theorem dX2_growMice_3 : decode cX2_growMice 3 = .ok (.aload_n 0, 1) := by decide +kernel
theorem dX2_growMice_4 : decode cX2_growMice 4 = .ok (.getfield 53, 3) := by decide +kernel
theorem dX2_growMice_7 : decode cX2_growMice 7 = .ok (.if_icmp .ge 64, 3) := by decide +kernel
theorem dX2_growMice_10 : decode cX2_growMice 10 = .ok (.aload_n 0, 1) := by decide +kernel
theorem dX2_growMice_11 : decode cX2_growMice 11 = .ok (.getfield 19, 3) := by decide +kernel
theorem dX2_growMice_14 : decode cX2_growMice 14 = .ok (.iload_n 1, 1) := by decide +kernel
theorem dX2_growMice_15 : decode cX2_growMice 15 = .ok (.aaload, 1) := by decide +kernel
theorem dX2_growMice_16 : decode cX2_growMice 16 = .ok (.getfield 118, 3) := by decide +kernel
theorem dX2_growMice_19 : decode cX2_growMice 19 = .ok (.iconst 2, 1) := by decide +kernel
theorem dX2_growMice_20 : decode cX2_growMice 20 = .ok (.idiv, 1) := by decide +kernel
theorem dX2_growMice_21 : decode cX2_growMice 21 = .ok (.bipush 99, 2) := by decide +kernel
theorem dX2_growMice_23 : decode cX2_growMice 23 = .ok (.aload_n 0, 1) := by decide +kernel
theorem dX2_growMice_24 : decode cX2_growMice 24 = .ok (.getfield 19, 3) := by decide +kernel
theorem dX2_growMice_27 : decode cX2_growMice 27 = .ok (.iload_n 1, 1) := by decide +kernel
theorem dX2_growMice_28 : decode cX2_growMice 28 = .ok (.aaload, 1) := by decide +kernel
theorem dX2_growMice_29 : decode cX2_growMice 29 = .ok (.getfield 118, 3) := by decide +kernel
theorem dX2_growMice_32 : decode cX2_growMice 32 = .ok (.isub, 1) := by decide +kernel
theorem dX2_growMice_33 : decode cX2_growMice 33 = .ok (.invokestatic 155, 3) := by decide +kernel
theorem dX2_growMice_36 : decode cX2_growMice 36 = .ok (.istore_n 2, 1) := by decide +kernel
theorem dX2_growMice_37 : decode cX2_growMice 37 = .ok (.aload_n 0, 1) := by decide +kernel
theorem dX2_growMice_38 : decode cX2_growMice 38 = .ok (.getfield 19, 3) := by decide +kernel
theorem dX2_growMice_41 : decode cX2_growMice 41 = .ok (.iload_n 1, 1) := by decide +kernel
theorem dX2_growMice_42 : decode cX2_growMice 42 = .ok (.aaload, 1) := by decide +kernel
theorem dX2_growMice_43 : decode cX2_growMice 43 = .ok (.dup, 1) := by decide +kernel
theorem dX2_growMice_44 : decode cX2_growMice 44 = .ok (.getfield 118, 3) := by decide +kernel
theorem dX2_growMice_47 : decode cX2_growMice 47 = .ok (.iload_n 2, 1) := by decide +kernel
theorem dX2_growMice_48 : decode cX2_growMice 48 = .ok (.iadd, 1) := by decide +kernel
theorem dX2_growMice_49 : decode cX2_growMice 49 = .ok (.putfield 118, 3) := by decide +kernel
theorem dX2_growMice_52 : decode cX2_growMice 52 = .ok (.aload_n 0, 1) := by decide +kernel
theorem dX2_growMice_53 : decode cX2_growMice 53 = .ok (.getfield 39, 3) := by decide +kernel
theorem dX2_growMice_56 : decode cX2_growMice 56 = .ok (.dup, 1) := by decide +kernel
theorem dX2_growMice_57 : decode cX2_growMice 57 = .ok (.getfield 178, 3) := by decide +kernel
theorem dX2_growMice_60 : decode cX2_growMice 60 = .ok (.iload_n 2, 1) := by decide +kernel
theorem dX2_growMice_61 : decode cX2_growMice 61 = .ok (.iadd, 1) := by decide +kernel
theorem dX2_growMice_62 : decode cX2_growMice 62 = .ok (.putfield 178, 3) := by decide +kernel
theorem dX2_growMice_65 : decode cX2_growMice 65 = .ok (.iinc 1 1, 3) := by decide +kernel
theorem dX2_growMice_68 : decode cX2_growMice 68 = .ok (.goto (-66), 3) := by decide +kernel
theorem dX2_growMice_71 : decode cX2_growMice 71 = .ok (.return_, 1) := by decide +kernel
theorem dX2_hunt_0 : decode cX2_hunt 0 = .ok (.aload_n 0, 1) := by decide +kernel
theorem dX2_hunt_1 : decode cX2_hunt 1 = .ok (.invokevirtual 181, 3) := by decide +kernel
theorem dX2_hunt_4 : decode cX2_hunt 4 = .ok (.istore_n 1, 1) := by decide +kernel
theorem dX2_hunt_5 : decode cX2_hunt 5 = .ok (.aload_n 0, 1) := by decide +kernel
theorem dX2_hunt_6 : decode cX2_hunt 6 = .ok (.getfield 43, 3) := by decide +kernel
theorem dX2_hunt_9 : decode cX2_hunt 9 = .ok (.iconst (-1), 1) := by decide +kernel
theorem dX2_hunt_10 : decode cX2_hunt 10 = .ok (.if_icmp .eq 8, 3) := by decide +kernel
theorem dX2_hunt_13 : decode cX2_hunt 13 = .ok (.iload_n 1, 1) := by decide +kernel
theorem dX2_hunt_14 : decode cX2_hunt 14 = .ok (.iconst (-1), 1) := by decide +kernel
theorem dX2_hunt_15 : decode cX2_hunt 15 = .ok (.if_icmp .ne 5, 3) := by decide +kernel
theorem dX2_hunt_18 : decode cX2_hunt 18 = .ok (.iconst (-1), 1) := by decide +kernel
theorem dX2_hunt_19 : decode cX2_hunt 19 = .ok (.ireturn, 1) := by decide +kernel
theorem dX2_hunt_20 : decode cX2_hunt 20 = .ok (.aload_n 0, 1) := by decide +kernel
theorem dX2_hunt_21 : decode cX2_hunt 21 = .ok (.getfield 11, 3) := by decide +kernel
theorem dX2_hunt_24 : decode cX2_hunt 24 = .ok (.aload_n 0, 1) := by decide +kernel
theorem dX2_hunt_25 : decode cX2_hunt 25 = .ok (.getfield 43, 3) := by decide +kernel
theorem dX2_hunt_28 : decode cX2_hunt 28 = .ok (.aaload, 1) := by decide +kernel
theorem dX2_hunt_29 : decode cX2_hunt 29 = .ok (.astore_n 2, 1) := by decide +kernel
theorem dX2_hunt_30 : decode cX2_hunt 30 = .ok (.aload_n 0, 1) := by decide +kernel
theorem dX2_hunt_31 : decode cX2_hunt 31 = .ok (.getfield 19, 3) := by decide +kernel
theorem dX2_hunt_34 : decode cX2_hunt 34 = .ok (.iload_n 1, 1) := by decide +kernel
theorem dX2_hunt_35 : decode cX2_hunt 35 = .ok (.aaload, 1) := by decide +kernel
theorem dX2_hunt_36 : decode cX2_hunt 36 = .ok (.astore_n 3, 1) := by decide +kernel
theorem dX2_hunt_37 : decode cX2_hunt 37 = .ok (.aload_n 2, 1) := by decide +kernel
theorem dX2_hunt_38 : decode cX2_hunt 38 = .ok (.invokevirtual 184, 3) := by decide +kernel
theorem dX2_hunt_41 : decode cX2_hunt 41 = .ok (.aload_n 3, 1) := by decide +kernel
theorem dX2_hunt_42 : decode cX2_hunt 42 = .ok (.getfield 118, 3) := by decide +kernel
theorem dX2_hunt_45 : decode cX2_hunt 45 = .ok (.invokestatic 155, 3) := by decide +kernel
theorem dX2_hunt_48 : decode cX2_hunt 48 = .ok (.istore 4, 2) := by decide +kernel
theorem dX2_hunt_50 : decode cX2_hunt 50 = .ok (.aload_n 3, 1) := by decide +kernel
theorem dX2_hunt_51 : decode cX2_hunt 51 = .ok (.dup, 1) := by decide +kernel
theorem dX2_hunt_52 : decode cX2_hunt 52 = .ok (.getfield 118, 3) := by decide +kernel
theorem dX2_hunt_55 : decode cX2_hunt 55 = .ok (.iload 4, 2) := by decide +kernel
theorem dX2_hunt_57 : decode cX2_hunt 57 = .ok (.isub, 1) := by decide +kernel
theorem dX2_hunt_58 : decode cX2_hunt 58 = .ok (.putfield 118, 3) := by decide +kernel
theorem dX2_hunt_61 : decode cX2_hunt 61 = .ok (.aload_n 2, 1) := by decide +kernel
theorem dX2_hunt_62 : decode cX2_hunt 62 = .ok (.dup, 1) := by decide +kernel
theorem dX2_hunt_63 : decode cX2_hunt 63 = .ok (.getfield 187, 3) := by decide +kernel
theorem dX2_hunt_66 : decode cX2_hunt 66 = .ok (.iload 4, 2) := by decide +kernel
theorem dX2_hunt_68 : decode cX2_hunt 68 = .ok (.iadd, 1) := by decide +kernel
theorem dX2_hunt_69 : decode cX2_hunt 69 = .ok (.putfield 187, 3) := by decide +kernel
theorem dX2_hunt_72 : decode cX2_hunt 72 = .ok (.aload_n 0, 1) := by decide +kernel
theorem dX2_hunt_73 : decode cX2_hunt 73 = .ok (.getfield 39, 3) := by decide +kernel
theorem dX2_hunt_76 : decode cX2_hunt 76 = .ok (.dup, 1) := by decide +kernel
theorem dX2_hunt_77 : decode cX2_hunt 77 = .ok (.getfield 131, 3) := by decide +kernel
theorem dX2_hunt_80 : decode cX2_hunt 80 = .ok (.iload 4, 2) := by decide +kernel
theorem dX2_hunt_82 : decode cX2_hunt 82 = .ok (.iadd, 1) := by decide +kernel
theorem dX2_hunt_83 : decode cX2_hunt 83 = .ok (.putfield 131, 3) := by decide +kernel
theorem dX2_hunt_86 : decode cX2_hunt 86 = .ok (.aload_n 2, 1) := by decide +kernel
theorem dX2_hunt_87 : decode cX2_hunt 87 = .ok (.invokevirtual 188, 3) := by decide +kernel
theorem dX2_hunt_90 : decode cX2_hunt 90 = .ok (.aload_n 0, 1) := by decide +kernel
theorem dX2_hunt_91 : decode cX2_hunt 91 = .ok (.getfield 32, 3) := by decide +kernel
theorem dX2_hunt_94 : decode cX2_hunt 94 = .ok (.iconst 1, 1) := by decide +kernel
theorem dX2_hunt_95 : decode cX2_hunt 95 = .ok (.aload_n 0, 1) := by decide +kernel
theorem dX2_hunt_96 : decode cX2_hunt 96 = .ok (.getfield 43, 3) := by decide +kernel
theorem dX2_hunt_99 : decode cX2_hunt 99 = .ok (.iload 4, 2) := by decide +kernel
theorem dX2_hunt_101 : decode cX2_hunt 101 = .ok (.invokevirtual 191, 3) := by decide +kernel
theorem dX2_hunt_104 : decode cX2_hunt 104 = .ok (.aload_n 0, 1) := by decide +kernel
theorem dX2_hunt_105 : decode cX2_hunt 105 = .ok (.getfield 43, 3) := by decide +kernel
theorem dX2_hunt_108 : decode cX2_hunt 108 = .ok (.ireturn, 1) := by decide +kernel
theorem dX2_busiestOpenSack_0 : decode cX2_busiestOpenSack 0 = .ok (.iconst (-1), 1) := by decide +kernel
theorem dX2_busiestOpenSack_1 : decode cX2_busiestOpenSack 1 = .ok (.istore_n 1, 1) := by decide +kernel
theorem dX2_busiestOpenSack_2 : decode cX2_busiestOpenSack 2 = .ok (.iconst 0, 1) := by decide +kernel
theorem dX2_busiestOpenSack_3 : decode cX2_busiestOpenSack 3 = .ok (.istore_n 2, 1) := by decide +kernel
theorem dX2_busiestOpenSack_4 : decode cX2_busiestOpenSack 4 = .ok (.iconst 0, 1) := by decide +kernel
theorem dX2_busiestOpenSack_5 : decode cX2_busiestOpenSack 5 = .ok (.istore_n 3, 1) := by decide +kernel
theorem dX2_busiestOpenSack_6 : decode cX2_busiestOpenSack 6 = .ok (.iload_n 3, 1) := by decide +kernel
theorem dX2_busiestOpenSack_7 : decode cX2_busiestOpenSack 7 = .ok (.aload_n 0, 1) := by decide +kernel
theorem dX2_busiestOpenSack_8 : decode cX2_busiestOpenSack 8 = .ok (.getfield 53, 3) := by decide +kernel
theorem dX2_busiestOpenSack_11 : decode cX2_busiestOpenSack 11 = .ok (.if_icmp .ge 46, 3) := by decide +kernel
theorem dX2_busiestOpenSack_14 : decode cX2_busiestOpenSack 14 = .ok (.aload_n 0, 1) := by decide +kernel
theorem dX2_busiestOpenSack_15 : decode cX2_busiestOpenSack 15 = .ok (.getfield 19, 3) := by decide +kernel
theorem dX2_busiestOpenSack_18 : decode cX2_busiestOpenSack 18 = .ok (.iload_n 3, 1) := by decide +kernel
theorem dX2_busiestOpenSack_19 : decode cX2_busiestOpenSack 19 = .ok (.aaload, 1) := by decide +kernel
theorem dX2_busiestOpenSack_20 : decode cX2_busiestOpenSack 20 = .ok (.getfield 114, 3) := by decide +kernel
theorem dX2_busiestOpenSack_23 : decode cX2_busiestOpenSack 23 = .ok (.ifCond .eq 28, 3) := by decide +kernel
theorem dX2_busiestOpenSack_26 : decode cX2_busiestOpenSack 26 = .ok (.aload_n 0, 1) := by decide +kernel
theorem dX2_busiestOpenSack_27 : decode cX2_busiestOpenSack 27 = .ok (.getfield 19, 3) := by decide +kernel
theorem dX2_busiestOpenSack_30 : decode cX2_busiestOpenSack 30 = .ok (.iload_n 3, 1) := by decide +kernel
theorem dX2_busiestOpenSack_31 : decode cX2_busiestOpenSack 31 = .ok (.aaload, 1) := by decide +kernel
theorem dX2_busiestOpenSack_32 : decode cX2_busiestOpenSack 32 = .ok (.getfield 118, 3) := by decide +kernel
theorem dX2_busiestOpenSack_35 : decode cX2_busiestOpenSack 35 = .ok (.iload_n 2, 1) := by decide +kernel
theorem dX2_busiestOpenSack_36 : decode cX2_busiestOpenSack 36 = .ok (.if_icmp .le 15, 3) := by decide +kernel
theorem dX2_busiestOpenSack_39 : decode cX2_busiestOpenSack 39 = .ok (.aload_n 0, 1) := by decide +kernel
theorem dX2_busiestOpenSack_40 : decode cX2_busiestOpenSack 40 = .ok (.getfield 19, 3) := by decide +kernel
theorem dX2_busiestOpenSack_43 : decode cX2_busiestOpenSack 43 = .ok (.iload_n 3, 1) := by decide +kernel
theorem dX2_busiestOpenSack_44 : decode cX2_busiestOpenSack 44 = .ok (.aaload, 1) := by decide +kernel
theorem dX2_busiestOpenSack_45 : decode cX2_busiestOpenSack 45 = .ok (.getfield 118, 3) := by decide +kernel
theorem dX2_busiestOpenSack_48 : decode cX2_busiestOpenSack 48 = .ok (.istore_n 2, 1) := by decide +kernel
theorem dX2_busiestOpenSack_49 : decode cX2_busiestOpenSack 49 = .ok (.iload_n 3, 1) := by decide +kernel
theorem dX2_busiestOpenSack_50 : decode cX2_busiestOpenSack 50 = .ok (.istore_n 1, 1) := by decide +kernel
theorem dX2_busiestOpenSack_51 : decode cX2_busiestOpenSack 51 = .ok (.iinc 3 1, 3) := by decide +kernel
theorem dX2_busiestOpenSack_54 : decode cX2_busiestOpenSack 54 = .ok (.goto (-48), 3) := by decide +kernel
theorem dX2_busiestOpenSack_57 : decode cX2_busiestOpenSack 57 = .ok (.iload_n 1, 1) := by decide +kernel
theorem dX2_busiestOpenSack_58 : decode cX2_busiestOpenSack 58 = .ok (.ireturn, 1) := by decide +kernel
theorem dX2_restAllBut_0 : decode cX2_restAllBut 0 = .ok (.iconst 0, 1) := by decide +kernel
theorem dX2_restAllBut_1 : decode cX2_restAllBut 1 = .ok (.istore_n 2, 1) := by decide +kernel
theorem dX2_restAllBut_2 : decode cX2_restAllBut 2 = .ok (.iload_n 2, 1) := by decide +kernel
theorem dX2_restAllBut_3 : decode cX2_restAllBut 3 = .ok (.aload_n 0, 1) := by decide +kernel
theorem dX2_restAllBut_4 : decode cX2_restAllBut 4 = .ok (.getfield 50, 3) := by decide +kernel
theorem dX2_restAllBut_7 : decode cX2_restAllBut 7 = .ok (.if_icmp .ge 24, 3) := by decide +kernel
theorem dX2_restAllBut_10 : decode cX2_restAllBut 10 = .ok (.iload_n 2, 1) := by decide +kernel
theorem dX2_restAllBut_11 : decode cX2_restAllBut 11 = .ok (.iload_n 1, 1) := by decide +kernel
theorem dX2_restAllBut_12 : decode cX2_restAllBut 12 = .ok (.if_icmp .eq 13, 3) := by decide +kernel
theorem dX2_restAllBut_15 : decode cX2_restAllBut 15 = .ok (.aload_n 0, 1) := by decide +kernel
theorem dX2_restAllBut_16 : decode cX2_restAllBut 16 = .ok (.getfield 11, 3) := by decide +kernel
theorem dX2_restAllBut_19 : decode cX2_restAllBut 19 = .ok (.iload_n 2, 1) := by decide +kernel
theorem dX2_restAllBut_20 : decode cX2_restAllBut 20 = .ok (.aaload, 1) := by decide +kernel
theorem dX2_restAllBut_21 : decode cX2_restAllBut 21 = .ok (.iconst 1, 1) := by decide +kernel
theorem dX2_restAllBut_22 : decode cX2_restAllBut 22 = .ok (.invokevirtual 195, 3) := by decide +kernel
theorem dX2_restAllBut_25 : decode cX2_restAllBut 25 = .ok (.iinc 2 1, 3) := by decide +kernel
theorem dX2_restAllBut_28 : decode cX2_restAllBut 28 = .ok (.goto (-26), 3) := by decide +kernel
theorem dX2_restAllBut_31 : decode cX2_restAllBut 31 = .ok (.return_, 1) := by decide +kernel
theorem dX2_changeShift_0 : decode cX2_changeShift 0 = .ok (.aload_n 0, 1) := by decide +kernel
theorem dX2_changeShift_1 : decode cX2_changeShift 1 = .ok (.aload_n 0, 1) := by decide +kernel
theorem dX2_changeShift_2 : decode cX2_changeShift 2 = .ok (.getfield 59, 3) := by decide +kernel
theorem dX2_changeShift_5 : decode cX2_changeShift 5 = .ok (.iconst 1, 1) := by decide +kernel
theorem dX2_changeShift_6 : decode cX2_changeShift 6 = .ok (.iadd, 1) := by decide +kernel
theorem dX2_changeShift_7 : decode cX2_changeShift 7 = .ok (.aload_n 0, 1) := by decide +kernel
theorem dX2_changeShift_8 : decode cX2_changeShift 8 = .ok (.getfield 56, 3) := by decide +kernel
theorem dX2_changeShift_11 : decode cX2_changeShift 11 = .ok (.if_icmp .ge 12, 3) := by decide +kernel
theorem dX2_changeShift_14 : decode cX2_changeShift 14 = .ok (.aload_n 0, 1) := by decide +kernel
theorem dX2_changeShift_15 : decode cX2_changeShift 15 = .ok (.getfield 59, 3) := by decide +kernel
theorem dX2_changeShift_18 : decode cX2_changeShift 18 = .ok (.iconst 1, 1) := by decide +kernel
theorem dX2_changeShift_19 : decode cX2_changeShift 19 = .ok (.iadd, 1) := by decide +kernel
theorem dX2_changeShift_20 : decode cX2_changeShift 20 = .ok (.goto 4, 3) := by decide +kernel
theorem dX2_changeShift_23 : decode cX2_changeShift 23 = .ok (.iconst 0, 1) := by decide +kernel
theorem dX2_changeShift_24 : decode cX2_changeShift 24 = .ok (.putfield 59, 3) := by decide +kernel
theorem dX2_changeShift_27 : decode cX2_changeShift 27 = .ok (.aload_n 0, 1) := by decide +kernel
theorem dX2_changeShift_28 : decode cX2_changeShift 28 = .ok (.aload_n 0, 1) := by decide +kernel
theorem dX2_changeShift_29 : decode cX2_changeShift 29 = .ok (.getfield 25, 3) := by decide +kernel
theorem dX2_changeShift_32 : decode cX2_changeShift 32 = .ok (.aload_n 0, 1) := by decide +kernel
theorem dX2_changeShift_33 : decode cX2_changeShift 33 = .ok (.getfield 59, 3) := by decide +kernel
theorem dX2_changeShift_36 : decode cX2_changeShift 36 = .ok (.aaload, 1) := by decide +kernel
theorem dX2_changeShift_37 : decode cX2_changeShift 37 = .ok (.getfield 104, 3) := by decide +kernel
theorem dX2_changeShift_40 : decode cX2_changeShift 40 = .ok (.putfield 62, 3) := by decide +kernel
theorem dX2_changeShift_43 : decode cX2_changeShift 43 = .ok (.aload_n 0, 1) := by decide +kernel
theorem dX2_changeShift_44 : decode cX2_changeShift 44 = .ok (.getfield 43, 3) := by decide +kernel
theorem dX2_changeShift_47 : decode cX2_changeShift 47 = .ok (.iconst (-1), 1) := by decide +kernel
theorem dX2_changeShift_48 : decode cX2_changeShift 48 = .ok (.if_icmp .ne 4, 3) := by decide +kernel
theorem dX2_changeShift_51 : decode cX2_changeShift 51 = .ok (.return_, 1) := by decide +kernel
theorem dX2_changeShift_52 : decode cX2_changeShift 52 = .ok (.aload_n 0, 1) := by decide +kernel
theorem dX2_changeShift_53 : decode cX2_changeShift 53 = .ok (.getfield 43, 3) := by decide +kernel
theorem dX2_changeShift_56 : decode cX2_changeShift 56 = .ok (.istore_n 1, 1) := by decide +kernel
theorem dX2_changeShift_57 : decode cX2_changeShift 57 = .ok (.aload_n 0, 1) := by decide +kernel
theorem dX2_changeShift_58 : decode cX2_changeShift 58 = .ok (.getfield 25, 3) := by decide +kernel
theorem dX2_changeShift_61 : decode cX2_changeShift 61 = .ok (.aload_n 0, 1) := by decide +kernel
theorem dX2_changeShift_62 : decode cX2_changeShift 62 = .ok (.getfield 59, 3) := by decide +kernel
theorem dX2_changeShift_65 : decode cX2_changeShift 65 = .ok (.aaload, 1) := by decide +kernel
theorem dX2_changeShift_66 : decode cX2_changeShift 66 = .ok (.getfield 107, 3) := by decide +kernel
theorem dX2_changeShift_69 : decode cX2_changeShift 69 = .ok (.istore_n 2, 1) := by decide +kernel
theorem dX2_changeShift_70 : decode cX2_changeShift 70 = .ok (.aload_n 0, 1) := by decide +kernel
theorem dX2_changeShift_71 : decode cX2_changeShift 71 = .ok (.iload_n 2, 1) := by decide +kernel
theorem dX2_changeShift_72 : decode cX2_changeShift 72 = .ok (.invokevirtual 198, 3) := by decide +kernel
theorem dX2_changeShift_75 : decode cX2_changeShift 75 = .ok (.ifCond .ne 21, 3) := by decide +kernel
theorem dX2_changeShift_78 : decode cX2_changeShift 78 = .ok (.aload_n 0, 1) := by decide +kernel
theorem dX2_changeShift_79 : decode cX2_changeShift 79 = .ok (.iload_n 2, 1) := by decide +kernel
theorem dX2_changeShift_80 : decode cX2_changeShift 80 = .ok (.invokevirtual 110, 3) := by decide +kernel
theorem dX2_changeShift_83 : decode cX2_changeShift 83 = .ok (.aload_n 0, 1) := by decide +kernel
theorem dX2_changeShift_84 : decode cX2_changeShift 84 = .ok (.getfield 32, 3) := by decide +kernel
theorem dX2_changeShift_87 : decode cX2_changeShift 87 = .ok (.iconst 2, 1) := by decide +kernel
theorem dX2_changeShift_88 : decode cX2_changeShift 88 = .ok (.iload_n 2, 1) := by decide +kernel
theorem dX2_changeShift_89 : decode cX2_changeShift 89 = .ok (.iload_n 1, 1) := by decide +kernel
theorem dX2_changeShift_90 : decode cX2_changeShift 90 = .ok (.invokevirtual 191, 3) := by decide +kernel
theorem dX2_changeShift_93 : decode cX2_changeShift 93 = .ok (.goto 31, 3) := by decide +kernel
theorem dX2_changeShift_96 : decode cX2_changeShift 96 = .ok (.aload_n 0, 1) := by decide +kernel
theorem dX2_changeShift_97 : decode cX2_changeShift 97 = .ok (.iconst (-1), 1) := by decide +kernel
theorem dX2_changeShift_98 : decode cX2_changeShift 98 = .ok (.putfield 43, 3) := by decide +kernel
theorem dX2_changeShift_101 : decode cX2_changeShift 101 = .ok (.aload_n 0, 1) := by decide +kernel
theorem dX2_changeShift_102 : decode cX2_changeShift 102 = .ok (.getfield 39, 3) := by decide +kernel
theorem dX2_changeShift_105 : decode cX2_changeShift 105 = .ok (.dup, 1) := by decide +kernel
theorem dX2_changeShift_106 : decode cX2_changeShift 106 = .ok (.getfield 201, 3) := by decide +kernel
theorem dX2_changeShift_109 : decode cX2_changeShift 109 = .ok (.iconst 1, 1) := by decide +kernel
theorem dX2_changeShift_110 : decode cX2_changeShift 110 = .ok (.iadd, 1) := by decide +kernel
theorem dX2_changeShift_111 : decode cX2_changeShift 111 = .ok (.putfield 201, 3) := by decide +kernel
theorem dX2_changeShift_114 : decode cX2_changeShift 114 = .ok (.aload_n 0, 1) := by decide +kernel
theorem dX2_changeShift_115 : decode cX2_changeShift 115 = .ok (.getfield 32, 3) := by decide +kernel
theorem dX2_changeShift_118 : decode cX2_changeShift 118 = .ok (.iconst 3, 1) := by decide +kernel
theorem dX2_changeShift_119 : decode cX2_changeShift 119 = .ok (.iload_n 2, 1) := by decide +kernel
theorem dX2_changeShift_120 : decode cX2_changeShift 120 = .ok (.iload_n 1, 1) := by decide +kernel
theorem dX2_changeShift_121 : decode cX2_changeShift 121 = .ok (.invokevirtual 191, 3) := by decide +kernel
theorem dX2_changeShift_124 : decode cX2_changeShift 124 = .ok (.return_, 1) := by decide +kernel
theorem dX2_reasonAgainst_0 : decode cX2_reasonAgainst 0 = .ok (.aload_n 0, 1) := by decide +kernel
theorem dX2_reasonAgainst_1 : decode cX2_reasonAgainst 1 = .ok (.getfield 43, 3) := by decide +kernel
theorem dX2_reasonAgainst_4 : decode cX2_reasonAgainst 4 = .ok (.iconst (-1), 1) := by decide +kernel
theorem dX2_reasonAgainst_5 : decode cX2_reasonAgainst 5 = .ok (.if_icmp .ne 5, 3) := by decide +kernel
theorem dX2_reasonAgainst_8 : decode cX2_reasonAgainst 8 = .ok (.iconst 1, 1) := by decide +kernel
theorem dX2_reasonAgainst_9 : decode cX2_reasonAgainst 9 = .ok (.ireturn, 1) := by decide +kernel
theorem dX2_reasonAgainst_10 : decode cX2_reasonAgainst 10 = .ok (.aload_n 0, 1) := by decide +kernel
theorem dX2_reasonAgainst_11 : decode cX2_reasonAgainst 11 = .ok (.getfield 11, 3) := by decide +kernel
theorem dX2_reasonAgainst_14 : decode cX2_reasonAgainst 14 = .ok (.iload_n 1, 1) := by decide +kernel
theorem dX2_reasonAgainst_15 : decode cX2_reasonAgainst 15 = .ok (.aaload, 1) := by decide +kernel
theorem dX2_reasonAgainst_16 : decode cX2_reasonAgainst 16 = .ok (.getfield 204, 3) := by decide +kernel
theorem dX2_reasonAgainst_19 : decode cX2_reasonAgainst 19 = .ok (.bipush 12, 2) := by decide +kernel
theorem dX2_reasonAgainst_21 : decode cX2_reasonAgainst 21 = .ok (.if_icmp .lt 5, 3) := by decide +kernel
theorem dX2_reasonAgainst_24 : decode cX2_reasonAgainst 24 = .ok (.iconst 2, 1) := by decide +kernel
theorem dX2_reasonAgainst_25 : decode cX2_reasonAgainst 25 = .ok (.ireturn, 1) := by decide +kernel
theorem dX2_reasonAgainst_26 : decode cX2_reasonAgainst 26 = .ok (.iload_n 1, 1) := by decide +kernel
theorem dX2_reasonAgainst_27 : decode cX2_reasonAgainst 27 = .ok (.aload_n 0, 1) := by decide +kernel
theorem dX2_reasonAgainst_28 : decode cX2_reasonAgainst 28 = .ok (.getfield 43, 3) := by decide +kernel
theorem dX2_reasonAgainst_31 : decode cX2_reasonAgainst 31 = .ok (.if_icmp .eq 31, 3) := by decide +kernel
theorem dX2_reasonAgainst_34 : decode cX2_reasonAgainst 34 = .ok (.aload_n 0, 1) := by decide +kernel
theorem dX2_reasonAgainst_35 : decode cX2_reasonAgainst 35 = .ok (.getfield 11, 3) := by decide +kernel
theorem dX2_reasonAgainst_38 : decode cX2_reasonAgainst 38 = .ok (.iload_n 1, 1) := by decide +kernel
theorem dX2_reasonAgainst_39 : decode cX2_reasonAgainst 39 = .ok (.aaload, 1) := by decide +kernel
theorem dX2_reasonAgainst_40 : decode cX2_reasonAgainst 40 = .ok (.getfield 207, 3) := by decide +kernel
theorem dX2_reasonAgainst_43 : decode cX2_reasonAgainst 43 = .ok (.aload_n 0, 1) := by decide +kernel
theorem dX2_reasonAgainst_44 : decode cX2_reasonAgainst 44 = .ok (.getfield 11, 3) := by decide +kernel
theorem dX2_reasonAgainst_47 : decode cX2_reasonAgainst 47 = .ok (.aload_n 0, 1) := by decide +kernel
theorem dX2_reasonAgainst_48 : decode cX2_reasonAgainst 48 = .ok (.getfield 43, 3) := by decide +kernel
theorem dX2_reasonAgainst_51 : decode cX2_reasonAgainst 51 = .ok (.aaload, 1) := by decide +kernel
theorem dX2_reasonAgainst_52 : decode cX2_reasonAgainst 52 = .ok (.getfield 207, 3) := by decide +kernel
theorem dX2_reasonAgainst_55 : decode cX2_reasonAgainst 55 = .ok (.if_icmp .ne 7, 3) := by decide +kernel
theorem dX2_reasonAgainst_58 : decode cX2_reasonAgainst 58 = .ok (.iconst 3, 1) := by decide +kernel
theorem dX2_reasonAgainst_59 : decode cX2_reasonAgainst 59 = .ok (.goto 4, 3) := by decide +kernel
theorem dX2_reasonAgainst_62 : decode cX2_reasonAgainst 62 = .ok (.iconst 0, 1) := by decide +kernel
theorem dX2_reasonAgainst_63 : decode cX2_reasonAgainst 63 = .ok (.ireturn, 1) := by decide +kernel
theorem dX2_swearIn_0 : decode cX2_swearIn 0 = .ok (.aload_n 0, 1) := by decide +kernel
theorem dX2_swearIn_1 : decode cX2_swearIn 1 = .ok (.iload_n 1, 1) := by decide +kernel
theorem dX2_swearIn_2 : decode cX2_swearIn 2 = .ok (.putfield 43, 3) := by decide +kernel
theorem dX2_swearIn_5 : decode cX2_swearIn 5 = .ok (.aload_n 0, 1) := by decide +kernel
theorem dX2_swearIn_6 : decode cX2_swearIn 6 = .ok (.getfield 11, 3) := by decide +kernel
theorem dX2_swearIn_9 : decode cX2_swearIn 9 = .ok (.iload_n 1, 1) := by decide +kernel
theorem dX2_swearIn_10 : decode cX2_swearIn 10 = .ok (.aaload, 1) := by decide +kernel
theorem dX2_swearIn_11 : decode cX2_swearIn 11 = .ok (.dup, 1) := by decide +kernel
theorem dX2_swearIn_12 : decode cX2_swearIn 12 = .ok (.getfield 210, 3) := by decide +kernel
theorem dX2_swearIn_15 : decode cX2_swearIn 15 = .ok (.iconst 1, 1) := by decide +kernel
theorem dX2_swearIn_16 : decode cX2_swearIn 16 = .ok (.iadd, 1) := by decide +kernel
theorem dX2_swearIn_17 : decode cX2_swearIn 17 = .ok (.putfield 210, 3) := by decide +kernel
theorem dX2_swearIn_20 : decode cX2_swearIn 20 = .ok (.aload_n 0, 1) := by decide +kernel
theorem dX2_swearIn_21 : decode cX2_swearIn 21 = .ok (.getfield 39, 3) := by decide +kernel
theorem dX2_swearIn_24 : decode cX2_swearIn 24 = .ok (.dup, 1) := by decide +kernel
theorem dX2_swearIn_25 : decode cX2_swearIn 25 = .ok (.getfield 213, 3) := by decide +kernel
theorem dX2_swearIn_28 : decode cX2_swearIn 28 = .ok (.iconst 1, 1) := by decide +kernel
theorem dX2_swearIn_29 : decode cX2_swearIn 29 = .ok (.iadd, 1) := by decide +kernel
theorem dX2_swearIn_30 : decode cX2_swearIn 30 = .ok (.putfield 213, 3) := by decide +kernel
theorem dX2_swearIn_33 : decode cX2_swearIn 33 = .ok (.return_, 1) := by decide +kernel
theorem dX2_greetDawn_0 : decode cX2_greetDawn 0 = .ok (.iconst 0, 1) := by decide +kernel
theorem dX2_greetDawn_1 : decode cX2_greetDawn 1 = .ok (.istore_n 1, 1) := by decide +kernel
theorem dX2_greetDawn_2 : decode cX2_greetDawn 2 = .ok (.iload_n 1, 1) := by decide +kernel
theorem dX2_greetDawn_3 : decode cX2_greetDawn 3 = .ok (.aload_n 0, 1) := by decide +kernel
theorem dX2_greetDawn_4 : decode cX2_greetDawn 4 = .ok (.getfield 50, 3) := by decide +kernel
theorem dX2_greetDawn_7 : decode cX2_greetDawn 7 = .ok (.if_icmp .ge 22, 3) := by decide +kernel
theorem dX2_greetDawn_10 : decode cX2_greetDawn 10 = .ok (.aload_n 0, 1) := by decide +kernel
theorem dX2_greetDawn_11 : decode cX2_greetDawn 11 = .ok (.getfield 11, 3) := by decide +kernel
theorem dX2_greetDawn_14 : decode cX2_greetDawn 14 = .ok (.iload_n 1, 1) := by decide +kernel
theorem dX2_greetDawn_15 : decode cX2_greetDawn 15 = .ok (.aaload, 1) := by decide +kernel
theorem dX2_greetDawn_16 : decode cX2_greetDawn 16 = .ok (.aload_n 0, 1) := by decide +kernel
theorem dX2_greetDawn_17 : decode cX2_greetDawn 17 = .ok (.getfield 65, 3) := by decide +kernel
theorem dX2_greetDawn_20 : decode cX2_greetDawn 20 = .ok (.invokevirtual 195, 3) := by decide +kernel
theorem dX2_greetDawn_23 : decode cX2_greetDawn 23 = .ok (.iinc 1 1, 3) := by decide +kernel
theorem dX2_greetDawn_26 : decode cX2_greetDawn 26 = .ok (.goto (-24), 3) := by decide +kernel
theorem dX2_greetDawn_29 : decode cX2_greetDawn 29 = .ok (.aload_n 0, 1) := by decide +kernel
theorem dX2_greetDawn_30 : decode cX2_greetDawn 30 = .ok (.getfield 25, 3) := by decide +kernel
theorem dX2_greetDawn_33 : decode cX2_greetDawn 33 = .ok (.aload_n 0, 1) := by decide +kernel
theorem dX2_greetDawn_34 : decode cX2_greetDawn 34 = .ok (.getfield 59, 3) := by decide +kernel
theorem dX2_greetDawn_37 : decode cX2_greetDawn 37 = .ok (.aaload, 1) := by decide +kernel
theorem dX2_greetDawn_38 : decode cX2_greetDawn 38 = .ok (.getfield 107, 3) := by decide +kernel
theorem dX2_greetDawn_41 : decode cX2_greetDawn 41 = .ok (.istore_n 1, 1) := by decide +kernel
theorem dX2_greetDawn_42 : decode cX2_greetDawn 42 = .ok (.aload_n 0, 1) := by decide +kernel
theorem dX2_greetDawn_43 : decode cX2_greetDawn 43 = .ok (.getfield 43, 3) := by decide +kernel
theorem dX2_greetDawn_46 : decode cX2_greetDawn 46 = .ok (.iconst (-1), 1) := by decide +kernel
theorem dX2_greetDawn_47 : decode cX2_greetDawn 47 = .ok (.if_icmp .ne 38, 3) := by decide +kernel
theorem dX2_greetDawn_50 : decode cX2_greetDawn 50 = .ok (.aload_n 0, 1) := by decide +kernel
theorem dX2_greetDawn_51 : decode cX2_greetDawn 51 = .ok (.getfield 11, 3) := by decide +kernel
theorem dX2_greetDawn_54 : decode cX2_greetDawn 54 = .ok (.iload_n 1, 1) := by decide +kernel
theorem dX2_greetDawn_55 : decode cX2_greetDawn 55 = .ok (.aaload, 1) := by decide +kernel
theorem dX2_greetDawn_56 : decode cX2_greetDawn 56 = .ok (.getfield 204, 3) := by decide +kernel
theorem dX2_greetDawn_59 : decode cX2_greetDawn 59 = .ok (.bipush 12, 2) := by decide +kernel
theorem dX2_greetDawn_61 : decode cX2_greetDawn 61 = .ok (.if_icmp .ge 24, 3) := by decide +kernel
theorem dX2_greetDawn_64 : decode cX2_greetDawn 64 = .ok (.aload_n 0, 1) := by decide +kernel
theorem dX2_greetDawn_65 : decode cX2_greetDawn 65 = .ok (.iload_n 1, 1) := by decide +kernel
theorem dX2_greetDawn_66 : decode cX2_greetDawn 66 = .ok (.invokevirtual 110, 3) := by decide +kernel
theorem dX2_greetDawn_69 : decode cX2_greetDawn 69 = .ok (.aload_n 0, 1) := by decide +kernel
theorem dX2_greetDawn_70 : decode cX2_greetDawn 70 = .ok (.getfield 32, 3) := by decide +kernel
theorem dX2_greetDawn_73 : decode cX2_greetDawn 73 = .ok (.iconst 4, 1) := by decide +kernel
theorem dX2_greetDawn_74 : decode cX2_greetDawn 74 = .ok (.iload_n 1, 1) := by decide +kernel
theorem dX2_greetDawn_75 : decode cX2_greetDawn 75 = .ok (.aload_n 0, 1) := by decide +kernel
theorem dX2_greetDawn_76 : decode cX2_greetDawn 76 = .ok (.getfield 68, 3) := by decide +kernel
theorem dX2_greetDawn_79 : decode cX2_greetDawn 79 = .ok (.invokevirtual 191, 3) := by decide +kernel
theorem dX2_greetDawn_82 : decode cX2_greetDawn 82 = .ok (.goto 16, 3) := by decide +kernel
theorem dX2_greetDawn_85 : decode cX2_greetDawn 85 = .ok (.aload_n 0, 1) := by decide +kernel
theorem dX2_greetDawn_86 : decode cX2_greetDawn 86 = .ok (.getfield 32, 3) := by decide +kernel
theorem dX2_greetDawn_89 : decode cX2_greetDawn 89 = .ok (.iconst 4, 1) := by decide +kernel
theorem dX2_greetDawn_90 : decode cX2_greetDawn 90 = .ok (.iconst (-1), 1) := by decide +kernel
theorem dX2_greetDawn_91 : decode cX2_greetDawn 91 = .ok (.aload_n 0, 1) := by decide +kernel
theorem dX2_greetDawn_92 : decode cX2_greetDawn 92 = .ok (.getfield 68, 3) := by decide +kernel
theorem dX2_greetDawn_95 : decode cX2_greetDawn 95 = .ok (.invokevirtual 191, 3) := by decide +kernel
theorem dX2_greetDawn_98 : decode cX2_greetDawn 98 = .ok (.return_, 1) := by decide +kernel
theorem dX2_openFlaps_0 : decode cX2_openFlaps 0 = .ok (.iconst 0, 1) := by decide +kernel
theorem dX2_openFlaps_1 : decode cX2_openFlaps 1 = .ok (.istore_n 1, 1) := by decide +kernel
theorem dX2_openFlaps_2 : decode cX2_openFlaps 2 = .ok (.iconst 0, 1) := by decide +kernel
theorem dX2_openFlaps_3 : decode cX2_openFlaps 3 = .ok (.istore_n 2, 1) := by decide +kernel
theorem dX2_openFlaps_4 : decode cX2_openFlaps 4 = .ok (.iload_n 2, 1) := by decide +kernel
theorem dX2_openFlaps_5 : decode cX2_openFlaps 5 = .ok (.aload_n 0, 1) := by decide +kernel
theorem dX2_openFlaps_6 : decode cX2_openFlaps 6 = .ok (.getfield 53, 3) := by decide +kernel
theorem dX2_openFlaps_9 : decode cX2_openFlaps 9 = .ok (.if_icmp .ge 24, 3) := by decide +kernel
theorem dX2_openFlaps_12 : decode cX2_openFlaps 12 = .ok (.aload_n 0, 1) := by decide +kernel
theorem dX2_openFlaps_13 : decode cX2_openFlaps 13 = .ok (.getfield 19, 3) := by decide +kernel
theorem dX2_openFlaps_16 : decode cX2_openFlaps 16 = .ok (.iload_n 2, 1) := by decide +kernel
theorem dX2_openFlaps_17 : decode cX2_openFlaps 17 = .ok (.aaload, 1) := by decide +kernel
theorem dX2_openFlaps_18 : decode cX2_openFlaps 18 = .ok (.getfield 114, 3) := by decide +kernel
theorem dX2_openFlaps_21 : decode cX2_openFlaps 21 = .ok (.ifCond .eq 6, 3) := by decide +kernel
theorem dX2_openFlaps_24 : decode cX2_openFlaps 24 = .ok (.iinc 1 1, 3) := by decide +kernel
theorem dX2_openFlaps_27 : decode cX2_openFlaps 27 = .ok (.iinc 2 1, 3) := by decide +kernel
theorem dX2_openFlaps_30 : decode cX2_openFlaps 30 = .ok (.goto (-26), 3) := by decide +kernel
theorem dX2_openFlaps_33 : decode cX2_openFlaps 33 = .ok (.iload_n 1, 1) := by decide +kernel
theorem dX2_openFlaps_34 : decode cX2_openFlaps 34 = .ok (.ireturn, 1) := by decide +kernel
theorem dX2_miceOfAll_0 : decode cX2_miceOfAll 0 = .ok (.iconst 0, 1) := by decide +kernel
theorem dX2_miceOfAll_1 : decode cX2_miceOfAll 1 = .ok (.istore_n 1, 1) := by decide +kernel
theorem dX2_miceOfAll_2 : decode cX2_miceOfAll 2 = .ok (.iconst 0, 1) := by decide +kernel
theorem dX2_miceOfAll_3 : decode cX2_miceOfAll 3 = .ok (.istore_n 2, 1) := by decide +kernel
theorem dX2_miceOfAll_4 : decode cX2_miceOfAll 4 = .ok (.iload_n 2, 1) := by decide +kernel
theorem dX2_miceOfAll_5 : decode cX2_miceOfAll 5 = .ok (.aload_n 0, 1) := by decide +kernel
theorem dX2_miceOfAll_6 : decode cX2_miceOfAll 6 = .ok (.getfield 53, 3) := by decide +kernel
theorem dX2_miceOfAll_9 : decode cX2_miceOfAll 9 = .ok (.if_icmp .ge 21, 3) := by decide +kernel
theorem dX2_miceOfAll_12 : decode cX2_miceOfAll 12 = .ok (.iload_n 1, 1) := by decide +kernel
theorem dX2_miceOfAll_13 : decode cX2_miceOfAll 13 = .ok (.aload_n 0, 1) := by decide +kernel
theorem dX2_miceOfAll_14 : decode cX2_miceOfAll 14 = .ok (.getfield 19, 3) := by decide +kernel
theorem dX2_miceOfAll_17 : decode cX2_miceOfAll 17 = .ok (.iload_n 2, 1) := by decide +kernel
theorem dX2_miceOfAll_18 : decode cX2_miceOfAll 18 = .ok (.aaload, 1) := by decide +kernel
theorem dX2_miceOfAll_19 : decode cX2_miceOfAll 19 = .ok (.getfield 118, 3) := by decide +kernel
theorem dX2_miceOfAll_22 : decode cX2_miceOfAll 22 = .ok (.iadd, 1) := by decide +kernel
theorem dX2_miceOfAll_23 : decode cX2_miceOfAll 23 = .ok (.istore_n 1, 1) := by decide +kernel
theorem dX2_miceOfAll_24 : decode cX2_miceOfAll 24 = .ok (.iinc 2 1, 3) := by decide +kernel
theorem dX2_miceOfAll_27 : decode cX2_miceOfAll 27 = .ok (.goto (-23), 3) := by decide +kernel
theorem dX2_miceOfAll_30 : decode cX2_miceOfAll 30 = .ok (.iload_n 1, 1) := by decide +kernel
theorem dX2_miceOfAll_31 : decode cX2_miceOfAll 31 = .ok (.ireturn, 1) := by decide +kernel
theorem dX2_miceOfAllBackwards_0 : decode cX2_miceOfAllBackwards 0 = .ok (.iconst 0, 1) := by decide +kernel
theorem dX2_miceOfAllBackwards_1 : decode cX2_miceOfAllBackwards 1 = .ok (.istore_n 1, 1) := by decide +kernel
theorem dX2_miceOfAllBackwards_2 : decode cX2_miceOfAllBackwards 2 = .ok (.aload_n 0, 1) := by decide +kernel
theorem dX2_miceOfAllBackwards_3 : decode cX2_miceOfAllBackwards 3 = .ok (.getfield 53, 3) := by decide +kernel
theorem dX2_miceOfAllBackwards_6 : decode cX2_miceOfAllBackwards 6 = .ok (.iconst 1, 1) := by decide +kernel
theorem dX2_miceOfAllBackwards_7 : decode cX2_miceOfAllBackwards 7 = .ok (.isub, 1) := by decide +kernel
theorem dX2_miceOfAllBackwards_8 : decode cX2_miceOfAllBackwards 8 = .ok (.istore_n 2, 1) := by decide +kernel
theorem dX2_miceOfAllBackwards_9 : decode cX2_miceOfAllBackwards 9 = .ok (.iload_n 2, 1) := by decide +kernel
theorem dX2_miceOfAllBackwards_10 : decode cX2_miceOfAllBackwards 10 = .ok (.ifCond .lt 21, 3) := by decide +kernel
theorem dX2_miceOfAllBackwards_13 : decode cX2_miceOfAllBackwards 13 = .ok (.iload_n 1, 1) := by decide +kernel
theorem dX2_miceOfAllBackwards_14 : decode cX2_miceOfAllBackwards 14 = .ok (.aload_n 0, 1) := by decide +kernel
theorem dX2_miceOfAllBackwards_15 : decode cX2_miceOfAllBackwards 15 = .ok (.getfield 19, 3) := by decide +kernel
theorem dX2_miceOfAllBackwards_18 : decode cX2_miceOfAllBackwards 18 = .ok (.iload_n 2, 1) := by decide +kernel
theorem dX2_miceOfAllBackwards_19 : decode cX2_miceOfAllBackwards 19 = .ok (.aaload, 1) := by decide +kernel
theorem dX2_miceOfAllBackwards_20 : decode cX2_miceOfAllBackwards 20 = .ok (.getfield 118, 3) := by decide +kernel
theorem dX2_miceOfAllBackwards_23 : decode cX2_miceOfAllBackwards 23 = .ok (.iadd, 1) := by decide +kernel
theorem dX2_miceOfAllBackwards_24 : decode cX2_miceOfAllBackwards 24 = .ok (.istore_n 1, 1) := by decide +kernel
theorem dX2_miceOfAllBackwards_25 : decode cX2_miceOfAllBackwards 25 = .ok (.iinc 2 (-1), 3) := by decide +kernel
theorem dX2_miceOfAllBackwards_28 : decode cX2_miceOfAllBackwards 28 = .ok (.goto (-19), 3) := by decide +kernel
theorem dX2_miceOfAllBackwards_31 : decode cX2_miceOfAllBackwards 31 = .ok (.iload_n 1, 1) := by decide +kernel
theorem dX2_miceOfAllBackwards_32 : decode cX2_miceOfAllBackwards 32 = .ok (.ireturn, 1) := by decide +kernel
theorem dX2_grainOfAll_0 : decode cX2_grainOfAll 0 = .ok (.iconst 0, 1) := by decide +kernel
theorem dX2_grainOfAll_1 : decode cX2_grainOfAll 1 = .ok (.istore_n 1, 1) := by decide +kernel
theorem dX2_grainOfAll_2 : decode cX2_grainOfAll 2 = .ok (.iconst 0, 1) := by decide +kernel
theorem dX2_grainOfAll_3 : decode cX2_grainOfAll 3 = .ok (.istore_n 2, 1) := by decide +kernel
theorem dX2_grainOfAll_4 : decode cX2_grainOfAll 4 = .ok (.iload_n 2, 1) := by decide +kernel
theorem dX2_grainOfAll_5 : decode cX2_grainOfAll 5 = .ok (.aload_n 0, 1) := by decide +kernel
theorem dX2_grainOfAll_6 : decode cX2_grainOfAll 6 = .ok (.getfield 53, 3) := by decide +kernel
theorem dX2_grainOfAll_9 : decode cX2_grainOfAll 9 = .ok (.if_icmp .ge 21, 3) := by decide +kernel
theorem dX2_grainOfAll_12 : decode cX2_grainOfAll 12 = .ok (.iload_n 1, 1) := by decide +kernel
theorem dX2_grainOfAll_13 : decode cX2_grainOfAll 13 = .ok (.aload_n 0, 1) := by decide +kernel
theorem dX2_grainOfAll_14 : decode cX2_grainOfAll 14 = .ok (.getfield 19, 3) := by decide +kernel
theorem dX2_grainOfAll_17 : decode cX2_grainOfAll 17 = .ok (.iload_n 2, 1) := by decide +kernel
theorem dX2_grainOfAll_18 : decode cX2_grainOfAll 18 = .ok (.aaload, 1) := by decide +kernel
theorem dX2_grainOfAll_19 : decode cX2_grainOfAll 19 = .ok (.getfield 121, 3) := by decide +kernel
theorem dX2_grainOfAll_22 : decode cX2_grainOfAll 22 = .ok (.iadd, 1) := by decide +kernel
theorem dX2_grainOfAll_23 : decode cX2_grainOfAll 23 = .ok (.istore_n 1, 1) := by decide +kernel
theorem dX2_grainOfAll_24 : decode cX2_grainOfAll 24 = .ok (.iinc 2 1, 3) := by decide +kernel
theorem dX2_grainOfAll_27 : decode cX2_grainOfAll 27 = .ok (.goto (-23), 3) := by decide +kernel
theorem dX2_grainOfAll_30 : decode cX2_grainOfAll 30 = .ok (.iload_n 1, 1) := by decide +kernel
theorem dX2_grainOfAll_31 : decode cX2_grainOfAll 31 = .ok (.ireturn, 1) := by decide +kernel
theorem dX2_miceAddUp_0 : decode cX2_miceAddUp 0 = .ok (.aload_n 0, 1) := by decide +kernel
theorem dX2_miceAddUp_1 : decode cX2_miceAddUp 1 = .ok (.getfield 39, 3) := by decide +kernel
theorem dX2_miceAddUp_4 : decode cX2_miceAddUp 4 = .ok (.getfield 95, 3) := by decide +kernel
theorem dX2_miceAddUp_7 : decode cX2_miceAddUp 7 = .ok (.aload_n 0, 1) := by decide +kernel
theorem dX2_miceAddUp_8 : decode cX2_miceAddUp 8 = .ok (.getfield 39, 3) := by decide +kernel
theorem dX2_miceAddUp_11 : decode cX2_miceAddUp 11 = .ok (.getfield 178, 3) := by decide +kernel
theorem dX2_miceAddUp_14 : decode cX2_miceAddUp 14 = .ok (.iadd, 1) := by decide +kernel
theorem dX2_miceAddUp_15 : decode cX2_miceAddUp 15 = .ok (.aload_n 0, 1) := by decide +kernel
theorem dX2_miceAddUp_16 : decode cX2_miceAddUp 16 = .ok (.getfield 39, 3) := by decide +kernel
theorem dX2_miceAddUp_19 : decode cX2_miceAddUp 19 = .ok (.getfield 131, 3) := by decide +kernel
theorem dX2_miceAddUp_22 : decode cX2_miceAddUp 22 = .ok (.isub, 1) := by decide +kernel
theorem dX2_miceAddUp_23 : decode cX2_miceAddUp 23 = .ok (.aload_n 0, 1) := by decide +kernel
theorem dX2_miceAddUp_24 : decode cX2_miceAddUp 24 = .ok (.getfield 39, 3) := by decide +kernel
theorem dX2_miceAddUp_27 : decode cX2_miceAddUp 27 = .ok (.getfield 175, 3) := by decide +kernel
theorem dX2_miceAddUp_30 : decode cX2_miceAddUp 30 = .ok (.isub, 1) := by decide +kernel
theorem dX2_miceAddUp_31 : decode cX2_miceAddUp 31 = .ok (.istore_n 1, 1) := by decide +kernel
theorem dX2_miceAddUp_32 : decode cX2_miceAddUp 32 = .ok (.aload_n 0, 1) := by decide +kernel
theorem dX2_miceAddUp_33 : decode cX2_miceAddUp 33 = .ok (.invokevirtual 91, 3) := by decide +kernel
theorem dX2_miceAddUp_36 : decode cX2_miceAddUp 36 = .ok (.iload_n 1, 1) := by decide +kernel
theorem dX2_miceAddUp_37 : decode cX2_miceAddUp 37 = .ok (.if_icmp .ne 15, 3) := by decide +kernel
theorem dX2_miceAddUp_40 : decode cX2_miceAddUp 40 = .ok (.aload_n 0, 1) := by decide +kernel
theorem dX2_miceAddUp_41 : decode cX2_miceAddUp 41 = .ok (.invokevirtual 214, 3) := by decide +kernel
theorem dX2_miceAddUp_44 : decode cX2_miceAddUp 44 = .ok (.iload_n 1, 1) := by decide +kernel
theorem dX2_miceAddUp_45 : decode cX2_miceAddUp 45 = .ok (.if_icmp .ne 7, 3) := by decide +kernel
theorem dX2_miceAddUp_48 : decode cX2_miceAddUp 48 = .ok (.iconst 1, 1) := by decide +kernel
theorem dX2_miceAddUp_49 : decode cX2_miceAddUp 49 = .ok (.goto 4, 3) := by decide +kernel
theorem dX2_miceAddUp_52 : decode cX2_miceAddUp 52 = .ok (.iconst 0, 1) := by decide +kernel
theorem dX2_miceAddUp_53 : decode cX2_miceAddUp 53 = .ok (.ireturn, 1) := by decide +kernel
theorem dX2_grainAddsUp_0 : decode cX2_grainAddsUp 0 = .ok (.iconst 0, 1) := by decide +kernel
theorem dX2_grainAddsUp_1 : decode cX2_grainAddsUp 1 = .ok (.istore_n 1, 1) := by decide +kernel
theorem dX2_grainAddsUp_2 : decode cX2_grainAddsUp 2 = .ok (.iconst 0, 1) := by decide +kernel
theorem dX2_grainAddsUp_3 : decode cX2_grainAddsUp 3 = .ok (.istore_n 2, 1) := by decide +kernel
theorem dX2_grainAddsUp_4 : decode cX2_grainAddsUp 4 = .ok (.iload_n 2, 1) := by decide +kernel
theorem dX2_grainAddsUp_5 : decode cX2_grainAddsUp 5 = .ok (.aload_n 0, 1) := by decide +kernel
theorem dX2_grainAddsUp_6 : decode cX2_grainAddsUp 6 = .ok (.getfield 53, 3) := by decide +kernel
theorem dX2_grainAddsUp_9 : decode cX2_grainAddsUp 9 = .ok (.if_icmp .ge 21, 3) := by decide +kernel
theorem dX2_grainAddsUp_12 : decode cX2_grainAddsUp 12 = .ok (.iload_n 1, 1) := by decide +kernel
theorem dX2_grainAddsUp_13 : decode cX2_grainAddsUp 13 = .ok (.aload_n 0, 1) := by decide +kernel
theorem dX2_grainAddsUp_14 : decode cX2_grainAddsUp 14 = .ok (.getfield 19, 3) := by decide +kernel
theorem dX2_grainAddsUp_17 : decode cX2_grainAddsUp 17 = .ok (.iload_n 2, 1) := by decide +kernel
theorem dX2_grainAddsUp_18 : decode cX2_grainAddsUp 18 = .ok (.aaload, 1) := by decide +kernel
theorem dX2_grainAddsUp_19 : decode cX2_grainAddsUp 19 = .ok (.getfield 161, 3) := by decide +kernel
theorem dX2_grainAddsUp_22 : decode cX2_grainAddsUp 22 = .ok (.iadd, 1) := by decide +kernel
theorem dX2_grainAddsUp_23 : decode cX2_grainAddsUp 23 = .ok (.istore_n 1, 1) := by decide +kernel
theorem dX2_grainAddsUp_24 : decode cX2_grainAddsUp 24 = .ok (.iinc 2 1, 3) := by decide +kernel
theorem dX2_grainAddsUp_27 : decode cX2_grainAddsUp 27 = .ok (.goto (-23), 3) := by decide +kernel
theorem dX2_grainAddsUp_30 : decode cX2_grainAddsUp 30 = .ok (.iload_n 1, 1) := by decide +kernel
theorem dX2_grainAddsUp_31 : decode cX2_grainAddsUp 31 = .ok (.aload_n 0, 1) := by decide +kernel
theorem dX2_grainAddsUp_32 : decode cX2_grainAddsUp 32 = .ok (.getfield 39, 3) := by decide +kernel
theorem dX2_grainAddsUp_35 : decode cX2_grainAddsUp 35 = .ok (.getfield 164, 3) := by decide +kernel
theorem dX2_grainAddsUp_38 : decode cX2_grainAddsUp 38 = .ok (.if_icmp .ne 29, 3) := by decide +kernel
theorem dX2_grainAddsUp_41 : decode cX2_grainAddsUp 41 = .ok (.aload_n 0, 1) := by decide +kernel
theorem dX2_grainAddsUp_42 : decode cX2_grainAddsUp 42 = .ok (.invokevirtual 98, 3) := by decide +kernel
theorem dX2_grainAddsUp_45 : decode cX2_grainAddsUp 45 = .ok (.aload_n 0, 1) := by decide +kernel
theorem dX2_grainAddsUp_46 : decode cX2_grainAddsUp 46 = .ok (.getfield 39, 3) := by decide +kernel
theorem dX2_grainAddsUp_49 : decode cX2_grainAddsUp 49 = .ok (.getfield 101, 3) := by decide +kernel
theorem dX2_grainAddsUp_52 : decode cX2_grainAddsUp 52 = .ok (.aload_n 0, 1) := by decide +kernel
theorem dX2_grainAddsUp_53 : decode cX2_grainAddsUp 53 = .ok (.getfield 39, 3) := by decide +kernel
theorem dX2_grainAddsUp_56 : decode cX2_grainAddsUp 56 = .ok (.getfield 164, 3) := by decide +kernel
theorem dX2_grainAddsUp_59 : decode cX2_grainAddsUp 59 = .ok (.isub, 1) := by decide +kernel
theorem dX2_grainAddsUp_60 : decode cX2_grainAddsUp 60 = .ok (.if_icmp .ne 7, 3) := by decide +kernel
theorem dX2_grainAddsUp_63 : decode cX2_grainAddsUp 63 = .ok (.iconst 1, 1) := by decide +kernel
theorem dX2_grainAddsUp_64 : decode cX2_grainAddsUp 64 = .ok (.goto 4, 3) := by decide +kernel
theorem dX2_grainAddsUp_67 : decode cX2_grainAddsUp 67 = .ok (.iconst 0, 1) := by decide +kernel
theorem dX2_grainAddsUp_68 : decode cX2_grainAddsUp 68 = .ok (.ireturn, 1) := by decide +kernel
theorem dX2_catsAddUp_0 : decode cX2_catsAddUp 0 = .ok (.iconst 0, 1) := by decide +kernel
theorem dX2_catsAddUp_1 : decode cX2_catsAddUp 1 = .ok (.istore_n 1, 1) := by decide +kernel
theorem dX2_catsAddUp_2 : decode cX2_catsAddUp 2 = .ok (.iconst 0, 1) := by decide +kernel
theorem dX2_catsAddUp_3 : decode cX2_catsAddUp 3 = .ok (.istore_n 2, 1) := by decide +kernel
theorem dX2_catsAddUp_4 : decode cX2_catsAddUp 4 = .ok (.iconst 0, 1) := by decide +kernel
theorem dX2_catsAddUp_5 : decode cX2_catsAddUp 5 = .ok (.istore_n 3, 1) := by decide +kernel
theorem dX2_catsAddUp_6 : decode cX2_catsAddUp 6 = .ok (.iload_n 3, 1) := by decide +kernel
theorem dX2_catsAddUp_7 : decode cX2_catsAddUp 7 = .ok (.aload_n 0, 1) := by decide +kernel
theorem dX2_catsAddUp_8 : decode cX2_catsAddUp 8 = .ok (.getfield 50, 3) := by decide +kernel
theorem dX2_catsAddUp_11 : decode cX2_catsAddUp 11 = .ok (.if_icmp .ge 33, 3) := by decide +kernel
theorem dX2_catsAddUp_14 : decode cX2_catsAddUp 14 = .ok (.iload_n 1, 1) := by decide +kernel
theorem dX2_catsAddUp_15 : decode cX2_catsAddUp 15 = .ok (.aload_n 0, 1) := by decide +kernel
theorem dX2_catsAddUp_16 : decode cX2_catsAddUp 16 = .ok (.getfield 11, 3) := by decide +kernel
theorem dX2_catsAddUp_19 : decode cX2_catsAddUp 19 = .ok (.iload_n 3, 1) := by decide +kernel
theorem dX2_catsAddUp_20 : decode cX2_catsAddUp 20 = .ok (.aaload, 1) := by decide +kernel
theorem dX2_catsAddUp_21 : decode cX2_catsAddUp 21 = .ok (.getfield 187, 3) := by decide +kernel
theorem dX2_catsAddUp_24 : decode cX2_catsAddUp 24 = .ok (.iadd, 1) := by decide +kernel
theorem dX2_catsAddUp_25 : decode cX2_catsAddUp 25 = .ok (.istore_n 1, 1) := by decide +kernel
theorem dX2_catsAddUp_26 : decode cX2_catsAddUp 26 = .ok (.iload_n 2, 1) := by decide +kernel
theorem dX2_catsAddUp_27 : decode cX2_catsAddUp 27 = .ok (.aload_n 0, 1) := by decide +kernel
theorem dX2_catsAddUp_28 : decode cX2_catsAddUp 28 = .ok (.getfield 11, 3) := by decide +kernel
theorem dX2_catsAddUp_31 : decode cX2_catsAddUp 31 = .ok (.iload_n 3, 1) := by decide +kernel
theorem dX2_catsAddUp_32 : decode cX2_catsAddUp 32 = .ok (.aaload, 1) := by decide +kernel
theorem dX2_catsAddUp_33 : decode cX2_catsAddUp 33 = .ok (.getfield 210, 3) := by decide +kernel
theorem dX2_catsAddUp_36 : decode cX2_catsAddUp 36 = .ok (.iadd, 1) := by decide +kernel
theorem dX2_catsAddUp_37 : decode cX2_catsAddUp 37 = .ok (.istore_n 2, 1) := by decide +kernel
theorem dX2_catsAddUp_38 : decode cX2_catsAddUp 38 = .ok (.iinc 3 1, 3) := by decide +kernel
theorem dX2_catsAddUp_41 : decode cX2_catsAddUp 41 = .ok (.goto (-35), 3) := by decide +kernel
theorem dX2_catsAddUp_44 : decode cX2_catsAddUp 44 = .ok (.iload_n 1, 1) := by decide +kernel
theorem dX2_catsAddUp_45 : decode cX2_catsAddUp 45 = .ok (.aload_n 0, 1) := by decide +kernel
theorem dX2_catsAddUp_46 : decode cX2_catsAddUp 46 = .ok (.getfield 39, 3) := by decide +kernel
theorem dX2_catsAddUp_49 : decode cX2_catsAddUp 49 = .ok (.getfield 131, 3) := by decide +kernel
theorem dX2_catsAddUp_52 : decode cX2_catsAddUp 52 = .ok (.if_icmp .ne 18, 3) := by decide +kernel
theorem dX2_catsAddUp_55 : decode cX2_catsAddUp 55 = .ok (.iload_n 2, 1) := by decide +kernel
theorem dX2_catsAddUp_56 : decode cX2_catsAddUp 56 = .ok (.aload_n 0, 1) := by decide +kernel
theorem dX2_catsAddUp_57 : decode cX2_catsAddUp 57 = .ok (.getfield 39, 3) := by decide +kernel
theorem dX2_catsAddUp_60 : decode cX2_catsAddUp 60 = .ok (.getfield 213, 3) := by decide +kernel
theorem dX2_catsAddUp_63 : decode cX2_catsAddUp 63 = .ok (.if_icmp .ne 7, 3) := by decide +kernel
theorem dX2_catsAddUp_66 : decode cX2_catsAddUp 66 = .ok (.iconst 1, 1) := by decide +kernel
theorem dX2_catsAddUp_67 : decode cX2_catsAddUp 67 = .ok (.goto 4, 3) := by decide +kernel
theorem dX2_catsAddUp_70 : decode cX2_catsAddUp 70 = .ok (.iconst 0, 1) := by decide +kernel
theorem dX2_catsAddUp_71 : decode cX2_catsAddUp 71 = .ok (.ireturn, 1) := by decide +kernel
theorem dX2_catNamed_0 : decode cX2_catNamed 0 = .ok (.iconst 0, 1) := by decide +kernel
theorem dX2_catNamed_1 : decode cX2_catNamed 1 = .ok (.istore_n 2, 1) := by decide +kernel
theorem dX2_catNamed_2 : decode cX2_catNamed 2 = .ok (.iload_n 2, 1) := by decide +kernel
theorem dX2_catNamed_3 : decode cX2_catNamed 3 = .ok (.aload_n 0, 1) := by decide +kernel
theorem dX2_catNamed_4 : decode cX2_catNamed 4 = .ok (.getfield 50, 3) := by decide +kernel
theorem dX2_catNamed_7 : decode cX2_catNamed 7 = .ok (.if_icmp .ge 27, 3) := by decide +kernel
theorem dX2_catNamed_10 : decode cX2_catNamed 10 = .ok (.aload_n 1, 1) := by decide +kernel
theorem dX2_catNamed_11 : decode cX2_catNamed 11 = .ok (.aload_n 0, 1) := by decide +kernel
theorem dX2_catNamed_12 : decode cX2_catNamed 12 = .ok (.getfield 11, 3) := by decide +kernel
theorem dX2_catNamed_15 : decode cX2_catNamed 15 = .ok (.iload_n 2, 1) := by decide +kernel
theorem dX2_catNamed_16 : decode cX2_catNamed 16 = .ok (.aaload, 1) := by decide +kernel
theorem dX2_catNamed_17 : decode cX2_catNamed 17 = .ok (.getfield 217, 3) := by decide +kernel
theorem dX2_catNamed_20 : decode cX2_catNamed 20 = .ok (.invokevirtual 221, 3) := by decide +kernel
theorem dX2_catNamed_23 : decode cX2_catNamed 23 = .ok (.ifCond .eq 5, 3) := by decide +kernel
theorem dX2_catNamed_26 : decode cX2_catNamed 26 = .ok (.iload_n 2, 1) := by decide +kernel
theorem dX2_catNamed_27 : decode cX2_catNamed 27 = .ok (.ireturn, 1) := by decide +kernel
theorem dX2_catNamed_28 : decode cX2_catNamed 28 = .ok (.iinc 2 1, 3) := by decide +kernel
theorem dX2_catNamed_31 : decode cX2_catNamed 31 = .ok (.goto (-29), 3) := by decide +kernel
theorem dX2_catNamed_34 : decode cX2_catNamed 34 = .ok (.iconst (-1), 1) := by decide +kernel
theorem dX2_catNamed_35 : decode cX2_catNamed 35 = .ok (.ireturn, 1) := by decide +kernel
theorem dX2_sackNamed_0 : decode cX2_sackNamed 0 = .ok (.iconst 0, 1) := by decide +kernel
theorem dX2_sackNamed_1 : decode cX2_sackNamed 1 = .ok (.istore_n 2, 1) := by decide +kernel
theorem dX2_sackNamed_2 : decode cX2_sackNamed 2 = .ok (.iload_n 2, 1) := by decide +kernel
theorem dX2_sackNamed_3 : decode cX2_sackNamed 3 = .ok (.aload_n 0, 1) := by decide +kernel
theorem dX2_sackNamed_4 : decode cX2_sackNamed 4 = .ok (.getfield 53, 3) := by decide +kernel
theorem dX2_sackNamed_7 : decode cX2_sackNamed 7 = .ok (.if_icmp .ge 27, 3) := by decide +kernel
theorem dX2_sackNamed_10 : decode cX2_sackNamed 10 = .ok (.aload_n 1, 1) := by decide +kernel
theorem dX2_sackNamed_11 : decode cX2_sackNamed 11 = .ok (.aload_n 0, 1) := by decide +kernel
theorem dX2_sackNamed_12 : decode cX2_sackNamed 12 = .ok (.getfield 19, 3) := by decide +kernel
theorem dX2_sackNamed_15 : decode cX2_sackNamed 15 = .ok (.iload_n 2, 1) := by decide +kernel
theorem dX2_sackNamed_16 : decode cX2_sackNamed 16 = .ok (.aaload, 1) := by decide +kernel
theorem dX2_sackNamed_17 : decode cX2_sackNamed 17 = .ok (.getfield 227, 3) := by decide +kernel
theorem dX2_sackNamed_20 : decode cX2_sackNamed 20 = .ok (.invokevirtual 221, 3) := by decide +kernel
theorem dX2_sackNamed_23 : decode cX2_sackNamed 23 = .ok (.ifCond .eq 5, 3) := by decide +kernel
theorem dX2_sackNamed_26 : decode cX2_sackNamed 26 = .ok (.iload_n 2, 1) := by decide +kernel
theorem dX2_sackNamed_27 : decode cX2_sackNamed 27 = .ok (.ireturn, 1) := by decide +kernel
theorem dX2_sackNamed_28 : decode cX2_sackNamed 28 = .ok (.iinc 2 1, 3) := by decide +kernel
theorem dX2_sackNamed_31 : decode cX2_sackNamed 31 = .ok (.goto (-29), 3) := by decide +kernel
theorem dX2_sackNamed_34 : decode cX2_sackNamed 34 = .ok (.iconst (-1), 1) := by decide +kernel
theorem dX2_sackNamed_35 : decode cX2_sackNamed 35 = .ok (.ireturn, 1) := by decide +kernel
theorem dX3_init_0 : decode cX3_init 0 = .ok (.aload_n 0, 1) := by decide +kernel
theorem dX3_init_1 : decode cX3_init 1 = .ok (.invokespecial 3, 3) := by decide +kernel
theorem dX3_init_4 : decode cX3_init 4 = .ok (.aload_n 0, 1) := by decide +kernel
theorem dX3_init_5 : decode cX3_init 5 = .ok (.bipush 100, 2) := by decide +kernel
theorem dX3_init_7 : decode cX3_init 7 = .ok (.newarray .byte, 2) := by decide +kernel
theorem dX3_init_9 : decode cX3_init 9 = .ok (.putfield 9, 3) := by decide +kernel
theorem dX3_init_12 : decode cX3_init 12 = .ok (.return_, 1) := by decide +kernel
theorem dX3_put_0 : decode cX3_put 0 = .ok (.aload_n 0, 1) := by decide +kernel
theorem dX3_put_1 : decode cX3_put 1 = .ok (.getfield 15, 3) := by decide +kernel
theorem dX3_put_4 : decode cX3_put 4 = .ok (.aload_n 0, 1) := by decide +kernel
theorem dX3_put_5 : decode cX3_put 5 = .ok (.getfield 9, 3) := by decide +kernel
theorem dX3_put_8 : decode cX3_put 8 = .ok (.arraylength, 1) := by decide +kernel
theorem dX3_put_9 : decode cX3_put 9 = .ok (.if_icmp .ge 24, 3) := by decide +kernel
theorem dX3_put_12 : decode cX3_put 12 = .ok (.aload_n 0, 1) := by decide +kernel
theorem dX3_put_13 : decode cX3_put 13 = .ok (.getfield 9, 3) := by decide +kernel
theorem dX3_put_16 : decode cX3_put 16 = .ok (.aload_n 0, 1) := by decide +kernel
theorem dX3_put_17 : decode cX3_put 17 = .ok (.getfield 15, 3) := by decide +kernel
theorem dX3_put_20 : decode cX3_put 20 = .ok (.iload_n 1, 1) := by decide +kernel
theorem dX3_put_21 : decode cX3_put 21 = .ok (.i2b, 1) := by decide +kernel
theorem dX3_put_22 : decode cX3_put 22 = .ok (.bastore, 1) := by decide +kernel
theorem dX3_put_23 : decode cX3_put 23 = .ok (.aload_n 0, 1) := by decide +kernel
theorem dX3_put_24 : decode cX3_put 24 = .ok (.dup, 1) := by decide +kernel
theorem dX3_put_25 : decode cX3_put 25 = .ok (.getfield 15, 3) := by decide +kernel
theorem dX3_put_28 : decode cX3_put 28 = .ok (.iconst 1, 1) := by decide +kernel
theorem dX3_put_29 : decode cX3_put 29 = .ok (.iadd, 1) := by decide +kernel
theorem dX3_put_30 : decode cX3_put 30 = .ok (.putfield 15, 3) := by decide +kernel
theorem dX3_put_33 : decode cX3_put 33 = .ok (.return_, 1) := by decide +kernel
theorem dX3_putSack_0 : decode cX3_putSack 0 = .ok (.iconst 0, 1) := by decide +kernel
theorem dX3_putSack_1 : decode cX3_putSack 1 = .ok (.istore_n 2, 1) := by decide +kernel
theorem dX3_putSack_2 : decode cX3_putSack 2 = .ok (.iload_n 2, 1) := by decide +kernel
theorem dX3_putSack_3 : decode cX3_putSack 3 = .ok (.aload_n 1, 1) := by decide +kernel
theorem dX3_putSack_4 : decode cX3_putSack 4 = .ok (.getfield 19, 3) := by decide +kernel
theorem dX3_putSack_7 : decode cX3_putSack 7 = .ok (.invokevirtual 25, 3) := by decide +kernel
theorem dX3_putSack_10 : decode cX3_putSack 10 = .ok (.if_icmp .ge 21, 3) := by decide +kernel
theorem dX3_putSack_13 : decode cX3_putSack 13 = .ok (.aload_n 0, 1) := by decide +kernel
theorem dX3_putSack_14 : decode cX3_putSack 14 = .ok (.aload_n 1, 1) := by decide +kernel
theorem dX3_putSack_15 : decode cX3_putSack 15 = .ok (.getfield 19, 3) := by decide +kernel
theorem dX3_putSack_18 : decode cX3_putSack 18 = .ok (.iload_n 2, 1) := by decide +kernel
theorem dX3_putSack_19 : decode cX3_putSack 19 = .ok (.invokevirtual 30, 3) := by decide +kernel
theorem dX3_putSack_22 : decode cX3_putSack 22 = .ok (.invokevirtual 34, 3) := by decide +kernel
theorem dX3_putSack_25 : decode cX3_putSack 25 = .ok (.iinc 2 1, 3) := by decide +kernel
theorem dX3_putSack_28 : decode cX3_putSack 28 = .ok (.goto (-26), 3) := by decide +kernel
theorem dX3_putSack_31 : decode cX3_putSack 31 = .ok (.aload_n 0, 1) := by decide +kernel
theorem dX3_putSack_32 : decode cX3_putSack 32 = .ok (.bipush 58, 2) := by decide +kernel
theorem dX3_putSack_34 : decode cX3_putSack 34 = .ok (.invokevirtual 34, 3) := by decide +kernel
theorem dX3_putSack_37 : decode cX3_putSack 37 = .ok (.aload_n 0, 1) := by decide +kernel
theorem dX3_putSack_38 : decode cX3_putSack 38 = .ok (.aload_n 1, 1) := by decide +kernel
theorem dX3_putSack_39 : decode cX3_putSack 39 = .ok (.getfield 38, 3) := by decide +kernel
theorem dX3_putSack_42 : decode cX3_putSack 42 = .ok (.invokevirtual 41, 3) := by decide +kernel
theorem dX3_putSack_45 : decode cX3_putSack 45 = .ok (.aload_n 0, 1) := by decide +kernel
theorem dX3_putSack_46 : decode cX3_putSack 46 = .ok (.bipush 47, 2) := by decide +kernel
theorem dX3_putSack_48 : decode cX3_putSack 48 = .ok (.invokevirtual 34, 3) := by decide +kernel
theorem dX3_putSack_51 : decode cX3_putSack 51 = .ok (.aload_n 0, 1) := by decide +kernel
theorem dX3_putSack_52 : decode cX3_putSack 52 = .ok (.aload_n 1, 1) := by decide +kernel
theorem dX3_putSack_53 : decode cX3_putSack 53 = .ok (.getfield 44, 3) := by decide +kernel
theorem dX3_putSack_56 : decode cX3_putSack 56 = .ok (.invokevirtual 41, 3) := by decide +kernel
theorem dX3_putSack_59 : decode cX3_putSack 59 = .ok (.aload_n 1, 1) := by decide +kernel
theorem dX3_putSack_60 : decode cX3_putSack 60 = .ok (.getfield 47, 3) := by decide +kernel
theorem dX3_putSack_63 : decode cX3_putSack 63 = .ok (.ifCond .eq 9, 3) := by decide +kernel
theorem dX3_putSack_66 : decode cX3_putSack 66 = .ok (.aload_n 0, 1) := by decide +kernel
theorem dX3_putSack_67 : decode cX3_putSack 67 = .ok (.bipush 39, 2) := by decide +kernel
theorem dX3_putSack_69 : decode cX3_putSack 69 = .ok (.invokevirtual 34, 3) := by decide +kernel
theorem dX3_putSack_72 : decode cX3_putSack 72 = .ok (.return_, 1) := by decide +kernel
theorem dX3_putNumber_0 : decode cX3_putNumber 0 = .ok (.sipush 1000, 3) := by decide +kernel
theorem dX3_putNumber_3 : decode cX3_putNumber 3 = .ok (.istore_n 2, 1) := by decide +kernel
theorem dX3_putNumber_4 : decode cX3_putNumber 4 = .ok (.iload_n 2, 1) := by decide +kernel
theorem dX3_putNumber_5 : decode cX3_putNumber 5 = .ok (.ifCond .le 34, 3) := by decide +kernel
theorem dX3_putNumber_8 : decode cX3_putNumber 8 = .ok (.iload_n 1, 1) := by decide +kernel
theorem dX3_putNumber_9 : decode cX3_putNumber 9 = .ok (.iload_n 2, 1) := by decide +kernel
theorem dX3_putNumber_10 : decode cX3_putNumber 10 = .ok (.if_icmp .ge 8, 3) := by decide +kernel
theorem dX3_putNumber_13 : decode cX3_putNumber 13 = .ok (.iload_n 2, 1) := by decide +kernel
theorem dX3_putNumber_14 : decode cX3_putNumber 14 = .ok (.iconst 1, 1) := by decide +kernel
theorem dX3_putNumber_15 : decode cX3_putNumber 15 = .ok (.if_icmp .ne 16, 3) := by decide +kernel
theorem dX3_putNumber_18 : decode cX3_putNumber 18 = .ok (.aload_n 0, 1) := by decide +kernel
theorem dX3_putNumber_19 : decode cX3_putNumber 19 = .ok (.bipush 48, 2) := by decide +kernel
theorem dX3_putNumber_21 : decode cX3_putNumber 21 = .ok (.iload_n 1, 1) := by decide +kernel
theorem dX3_putNumber_22 : decode cX3_putNumber 22 = .ok (.iload_n 2, 1) := by decide +kernel
theorem dX3_putNumber_23 : decode cX3_putNumber 23 = .ok (.idiv, 1) := by decide +kernel
theorem dX3_putNumber_24 : decode cX3_putNumber 24 = .ok (.bipush 10, 2) := by decide +kernel
theorem dX3_putNumber_26 : decode cX3_putNumber 26 = .ok (.irem, 1) := by decide +kernel
theorem dX3_putNumber_27 : decode cX3_putNumber 27 = .ok (.iadd, 1) := by decide +kernel
theorem dX3_putNumber_28 : decode cX3_putNumber 28 = .ok (.invokevirtual 34, 3) := by decide +kernel
theorem dX3_putNumber_31 : decode cX3_putNumber 31 = .ok (.iload_n 2, 1) := by decide +kernel
theorem dX3_putNumber_32 : decode cX3_putNumber 32 = .ok (.bipush 10, 2) := by decide +kernel
theorem dX3_putNumber_34 : decode cX3_putNumber 34 = .ok (.idiv, 1) := by decide +kernel
theorem dX3_putNumber_35 : decode cX3_putNumber 35 = .ok (.istore_n 2, 1) := by decide +kernel
theorem dX3_putNumber_36 : decode cX3_putNumber 36 = .ok (.goto (-32), 3) := by decide +kernel
theorem dX3_putNumber_39 : decode cX3_putNumber 39 = .ok (.return_, 1) := by decide +kernel
theorem dX4_init_0 : decode cX4_init 0 = .ok (.aload_n 0, 1) := by decide +kernel
theorem dX4_init_1 : decode cX4_init 1 = .ok (.invokespecial 1, 3) := by decide +kernel
theorem dX4_init_4 : decode cX4_init 4 = .ok (.aload_n 0, 1) := by decide +kernel
theorem dX4_init_5 : decode cX4_init 5 = .ok (.ldc 7, 2) := by decide +kernel
theorem dX4_init_7 : decode cX4_init 7 = .ok (.putfield 9, 3) := by decide +kernel
theorem dX4_init_10 : decode cX4_init 10 = .ok (.return_, 1) := by decide +kernel
theorem dX4_copyFrom_0 : decode cX4_copyFrom 0 = .ok (.aload_n 0, 1) := by decide +kernel
theorem dX4_copyFrom_1 : decode cX4_copyFrom 1 = .ok (.aload_n 1, 1) := by decide +kernel
theorem dX4_copyFrom_2 : decode cX4_copyFrom 2 = .ok (.getfield 9, 3) := by decide +kernel
theorem dX4_copyFrom_5 : decode cX4_copyFrom 5 = .ok (.putfield 9, 3) := by decide +kernel
theorem dX4_copyFrom_8 : decode cX4_copyFrom 8 = .ok (.aload_n 0, 1) := by decide +kernel
theorem dX4_copyFrom_9 : decode cX4_copyFrom 9 = .ok (.aload_n 1, 1) := by decide +kernel
theorem dX4_copyFrom_10 : decode cX4_copyFrom 10 = .ok (.getfield 15, 3) := by decide +kernel
theorem dX4_copyFrom_13 : decode cX4_copyFrom 13 = .ok (.putfield 15, 3) := by decide +kernel
theorem dX4_copyFrom_16 : decode cX4_copyFrom 16 = .ok (.aload_n 0, 1) := by decide +kernel
theorem dX4_copyFrom_17 : decode cX4_copyFrom 17 = .ok (.aload_n 1, 1) := by decide +kernel
theorem dX4_copyFrom_18 : decode cX4_copyFrom 18 = .ok (.getfield 19, 3) := by decide +kernel
theorem dX4_copyFrom_21 : decode cX4_copyFrom 21 = .ok (.putfield 19, 3) := by decide +kernel
theorem dX4_copyFrom_24 : decode cX4_copyFrom 24 = .ok (.aload_n 0, 1) := by decide +kernel
theorem dX4_copyFrom_25 : decode cX4_copyFrom 25 = .ok (.aload_n 1, 1) := by decide +kernel
theorem dX4_copyFrom_26 : decode cX4_copyFrom 26 = .ok (.getfield 22, 3) := by decide +kernel
theorem dX4_copyFrom_29 : decode cX4_copyFrom 29 = .ok (.putfield 22, 3) := by decide +kernel
theorem dX4_copyFrom_32 : decode cX4_copyFrom 32 = .ok (.aload_n 0, 1) := by decide +kernel
theorem dX4_copyFrom_33 : decode cX4_copyFrom 33 = .ok (.aload_n 1, 1) := by decide +kernel
theorem dX4_copyFrom_34 : decode cX4_copyFrom 34 = .ok (.getfield 26, 3) := by decide +kernel
theorem dX4_copyFrom_37 : decode cX4_copyFrom 37 = .ok (.putfield 26, 3) := by decide +kernel
theorem dX4_copyFrom_40 : decode cX4_copyFrom 40 = .ok (.return_, 1) := by decide +kernel
theorem dX5_init_0 : decode cX5_init 0 = .ok (.aload_n 0, 1) := by decide +kernel
theorem dX5_init_1 : decode cX5_init 1 = .ok (.invokespecial 3, 3) := by decide +kernel
theorem dX5_init_4 : decode cX5_init 4 = .ok (.aload_n 0, 1) := by decide +kernel
theorem dX5_init_5 : decode cX5_init 5 = .ok (.bipush 30, 2) := by decide +kernel
theorem dX5_init_7 : decode cX5_init 7 = .ok (.newarray .int, 2) := by decide +kernel
theorem dX5_init_9 : decode cX5_init 9 = .ok (.putfield 9, 3) := by decide +kernel
theorem dX5_init_12 : decode cX5_init 12 = .ok (.aload_n 0, 1) := by decide +kernel
theorem dX5_init_13 : decode cX5_init 13 = .ok (.bipush 30, 2) := by decide +kernel
theorem dX5_init_15 : decode cX5_init 15 = .ok (.newarray .int, 2) := by decide +kernel
theorem dX5_init_17 : decode cX5_init 17 = .ok (.putfield 15, 3) := by decide +kernel
theorem dX5_init_20 : decode cX5_init 20 = .ok (.aload_n 0, 1) := by decide +kernel
theorem dX5_init_21 : decode cX5_init 21 = .ok (.bipush 30, 2) := by decide +kernel
theorem dX5_init_23 : decode cX5_init 23 = .ok (.newarray .int, 2) := by decide +kernel
theorem dX5_init_25 : decode cX5_init 25 = .ok (.putfield 18, 3) := by decide +kernel
theorem dX5_init_28 : decode cX5_init 28 = .ok (.aload_n 0, 1) := by decide +kernel
theorem dX5_init_29 : decode cX5_init 29 = .ok (.aload_n 1, 1) := by decide +kernel
theorem dX5_init_30 : decode cX5_init 30 = .ok (.putfield 21, 3) := by decide +kernel
theorem dX5_init_33 : decode cX5_init 33 = .ok (.aload_n 0, 1) := by decide +kernel
theorem dX5_init_34 : decode cX5_init 34 = .ok (.aload_n 2, 1) := by decide +kernel
theorem dX5_init_35 : decode cX5_init 35 = .ok (.putfield 25, 3) := by decide +kernel
theorem dX5_init_38 : decode cX5_init 38 = .ok (.return_, 1) := by decide +kernel
theorem dX5_parse_0 : decode cX5_parse 0 = .ok (.aload_n 0, 1) := by decide +kernel
theorem dX5_parse_1 : decode cX5_parse 1 = .ok (.getfield 21, 3) := by decide +kernel
theorem dX5_parse_4 : decode cX5_parse 4 = .ok (.invokevirtual 29, 3) := by decide +kernel
theorem dX5_parse_7 : decode cX5_parse 7 = .ok (.aload_n 0, 1) := by decide +kernel
theorem dX5_parse_8 : decode cX5_parse 8 = .ok (.iconst 0, 1) := by decide +kernel
theorem dX5_parse_9 : decode cX5_parse 9 = .ok (.putfield 34, 3) := by decide +kernel
theorem dX5_parse_12 : decode cX5_parse 12 = .ok (.iconst 0, 1) := by decide +kernel
theorem dX5_parse_13 : decode cX5_parse 13 = .ok (.istore_n 1, 1) := by decide +kernel
theorem dX5_parse_14 : decode cX5_parse 14 = .ok (.iload_n 1, 1) := by decide +kernel
theorem dX5_parse_15 : decode cX5_parse 15 = .ok (.aload_n 0, 1) := by decide +kernel
theorem dX5_parse_16 : decode cX5_parse 16 = .ok (.getfield 21, 3) := by decide +kernel
theorem dX5_parse_19 : decode cX5_parse 19 = .ok (.getfield 38, 3) := by decide +kernel
theorem dX5_parse_22 : decode cX5_parse 22 = .ok (.if_icmp .gt 48, 3) := by decide +kernel
theorem dX5_parse_25 : decode cX5_parse 25 = .ok (.aload_n 0, 1) := by decide +kernel
theorem dX5_parse_26 : decode cX5_parse 26 = .ok (.getfield 21, 3) := by decide +kernel
theorem dX5_parse_29 : decode cX5_parse 29 = .ok (.invokevirtual 41, 3) := by decide +kernel
theorem dX5_parse_32 : decode cX5_parse 32 = .ok (.ifCond .eq 38, 3) := by decide +kernel
theorem dX5_parse_35 : decode cX5_parse 35 = .ok (.aload_n 0, 1) := by decide +kernel
theorem dX5_parse_36 : decode cX5_parse 36 = .ok (.invokevirtual 45, 3) := by decide +kernel
theorem dX5_parse_39 : decode cX5_parse 39 = .ok (.istore_n 2, 1) := by decide +kernel
theorem dX5_parse_40 : decode cX5_parse 40 = .ok (.iload_n 2, 1) := by decide +kernel
theorem dX5_parse_41 : decode cX5_parse 41 = .ok (.iconst (-1), 1) := by decide +kernel
theorem dX5_parse_42 : decode cX5_parse 42 = .ok (.if_icmp .ne 12, 3) := by decide +kernel
theorem dX5_parse_45 : decode cX5_parse 45 = .ok (.aload_n 0, 1) := by decide +kernel
theorem dX5_parse_46 : decode cX5_parse 46 = .ok (.getfield 21, 3) := by decide +kernel
theorem dX5_parse_49 : decode cX5_parse 49 = .ok (.iconst 1, 1) := by decide +kernel
theorem dX5_parse_50 : decode cX5_parse 50 = .ok (.invokevirtual 49, 3) := by decide +kernel
theorem dX5_parse_53 : decode cX5_parse 53 = .ok (.ireturn, 1) := by decide +kernel
theorem dX5_parse_54 : decode cX5_parse 54 = .ok (.aload_n 0, 1) := by decide +kernel
theorem dX5_parse_55 : decode cX5_parse 55 = .ok (.iload_n 2, 1) := by decide +kernel
theorem dX5_parse_56 : decode cX5_parse 56 = .ok (.invokevirtual 53, 3) := by decide +kernel
theorem dX5_parse_59 : decode cX5_parse 59 = .ok (.ifCond .ne 5, 3) := by decide +kernel
theorem dX5_parse_62 : decode cX5_parse 62 = .ok (.iconst 0, 1) := by decide +kernel
theorem dX5_parse_63 : decode cX5_parse 63 = .ok (.ireturn, 1) := by decide +kernel
theorem dX5_parse_64 : decode cX5_parse 64 = .ok (.iinc 1 1, 3) := by decide +kernel
theorem dX5_parse_67 : decode cX5_parse 67 = .ok (.goto (-53), 3) := by decide +kernel
theorem dX5_parse_70 : decode cX5_parse 70 = .ok (.iconst 1, 1) := by decide +kernel
theorem dX5_parse_71 : decode cX5_parse 71 = .ok (.ireturn, 1) := by decide +kernel
theorem dX5_kindOfStatement_0 : decode cX5_kindOfStatement 0 = .ok (.aload_n 0, 1) := by decide +kernel
theorem dX5_kindOfStatement_1 : decode cX5_kindOfStatement 1 = .ok (.getfield 21, 3) := by decide +kernel
theorem dX5_kindOfStatement_4 : decode cX5_kindOfStatement 4 = .ok (.ldc 56, 2) := by decide +kernel
theorem dX5_kindOfStatement_6 : decode cX5_kindOfStatement 6 = .ok (.invokevirtual 58, 3) := by decide +kernel
theorem dX5_kindOfStatement_9 : decode cX5_kindOfStatement 9 = .ok (.ifCond .eq 5, 3) := by decide +kernel
theorem dX5_kindOfStatement_12 : decode cX5_kindOfStatement 12 = .ok (.iconst 0, 1) := by decide +kernel
theorem dX5_kindOfStatement_13 : decode cX5_kindOfStatement 13 = .ok (.ireturn, 1) := by decide +kernel
theorem dX5_kindOfStatement_14 : decode cX5_kindOfStatement 14 = .ok (.aload_n 0, 1) := by decide +kernel
theorem dX5_kindOfStatement_15 : decode cX5_kindOfStatement 15 = .ok (.getfield 21, 3) := by decide +kernel
theorem dX5_kindOfStatement_18 : decode cX5_kindOfStatement 18 = .ok (.ldc 62, 2) := by decide +kernel
theorem dX5_kindOfStatement_20 : decode cX5_kindOfStatement 20 = .ok (.invokevirtual 58, 3) := by decide +kernel
theorem dX5_kindOfStatement_23 : decode cX5_kindOfStatement 23 = .ok (.ifCond .eq 5, 3) := by decide +kernel
theorem dX5_kindOfStatement_26 : decode cX5_kindOfStatement 26 = .ok (.iconst 1, 1) := by decide +kernel
theorem dX5_kindOfStatement_27 : decode cX5_kindOfStatement 27 = .ok (.ireturn, 1) := by decide +kernel
theorem dX5_kindOfStatement_28 : decode cX5_kindOfStatement 28 = .ok (.aload_n 0, 1) := by decide +kernel
theorem dX5_kindOfStatement_29 : decode cX5_kindOfStatement 29 = .ok (.getfield 21, 3) := by decide +kernel
theorem dX5_kindOfStatement_32 : decode cX5_kindOfStatement 32 = .ok (.ldc 64, 2) := by decide +kernel
theorem dX5_kindOfStatement_34 : decode cX5_kindOfStatement 34 = .ok (.invokevirtual 58, 3) := by decide +kernel
theorem dX5_kindOfStatement_37 : decode cX5_kindOfStatement 37 = .ok (.ifCond .eq 5, 3) := by decide +kernel
theorem dX5_kindOfStatement_40 : decode cX5_kindOfStatement 40 = .ok (.iconst 2, 1) := by decide +kernel
theorem dX5_kindOfStatement_41 : decode cX5_kindOfStatement 41 = .ok (.ireturn, 1) := by decide +kernel
theorem dX5_kindOfStatement_42 : decode cX5_kindOfStatement 42 = .ok (.aload_n 0, 1) := by decide +kernel
theorem dX5_kindOfStatement_43 : decode cX5_kindOfStatement 43 = .ok (.getfield 21, 3) := by decide +kernel
theorem dX5_kindOfStatement_46 : decode cX5_kindOfStatement 46 = .ok (.ldc 66, 2) := by decide +kernel
theorem dX5_kindOfStatement_48 : decode cX5_kindOfStatement 48 = .ok (.invokevirtual 58, 3) := by decide +kernel
theorem dX5_kindOfStatement_51 : decode cX5_kindOfStatement 51 = .ok (.ifCond .eq 5, 3) := by decide +kernel
theorem dX5_kindOfStatement_54 : decode cX5_kindOfStatement 54 = .ok (.iconst 3, 1) := by decide +kernel
theorem dX5_kindOfStatement_55 : decode cX5_kindOfStatement 55 = .ok (.ireturn, 1) := by decide +kernel
theorem dX5_kindOfStatement_56 : decode cX5_kindOfStatement 56 = .ok (.aload_n 0, 1) := by decide +kernel
theorem dX5_kindOfStatement_57 : decode cX5_kindOfStatement 57 = .ok (.getfield 21, 3) := by decide +kernel
theorem dX5_kindOfStatement_60 : decode cX5_kindOfStatement 60 = .ok (.ldc 68, 2) := by decide +kernel
theorem dX5_kindOfStatement_62 : decode cX5_kindOfStatement 62 = .ok (.invokevirtual 58, 3) := by decide +kernel
theorem dX5_kindOfStatement_65 : decode cX5_kindOfStatement 65 = .ok (.ifCond .eq 5, 3) := by decide +kernel
theorem dX5_kindOfStatement_68 : decode cX5_kindOfStatement 68 = .ok (.iconst 4, 1) := by decide +kernel
theorem dX5_kindOfStatement_69 : decode cX5_kindOfStatement 69 = .ok (.ireturn, 1) := by decide +kernel
theorem dX5_kindOfStatement_70 : decode cX5_kindOfStatement 70 = .ok (.aload_n 0, 1) := by decide +kernel
theorem dX5_kindOfStatement_71 : decode cX5_kindOfStatement 71 = .ok (.getfield 21, 3) := by decide +kernel
theorem dX5_kindOfStatement_74 : decode cX5_kindOfStatement 74 = .ok (.ldc 70, 2) := by decide +kernel
theorem dX5_kindOfStatement_76 : decode cX5_kindOfStatement 76 = .ok (.invokevirtual 58, 3) := by decide +kernel
theorem dX5_kindOfStatement_79 : decode cX5_kindOfStatement 79 = .ok (.ifCond .eq 5, 3) := by decide +kernel
theorem dX5_kindOfStatement_82 : decode cX5_kindOfStatement 82 = .ok (.iconst 5, 1) := by decide +kernel
theorem dX5_kindOfStatement_83 : decode cX5_kindOfStatement 83 = .ok (.ireturn, 1) := by decide +kernel
theorem dX5_kindOfStatement_84 : decode cX5_kindOfStatement 84 = .ok (.aload_n 0, 1) := by decide +kernel
theorem dX5_kindOfStatement_85 : decode cX5_kindOfStatement 85 = .ok (.getfield 21, 3) := by decide +kernel
theorem dX5_kindOfStatement_88 : decode cX5_kindOfStatement 88 = .ok (.ldc 72, 2) := by decide +kernel
theorem dX5_kindOfStatement_90 : decode cX5_kindOfStatement 90 = .ok (.invokevirtual 58, 3) := by decide +kernel
theorem dX5_kindOfStatement_93 : decode cX5_kindOfStatement 93 = .ok (.ifCond .eq 8, 3) := by decide +kernel
theorem dX5_kindOfStatement_96 : decode cX5_kindOfStatement 96 = .ok (.bipush 6, 2) := by decide +kernel
theorem dX5_kindOfStatement_98 : decode cX5_kindOfStatement 98 = .ok (.goto 4, 3) := by decide +kernel
theorem dX5_kindOfStatement_101 : decode cX5_kindOfStatement 101 = .ok (.iconst (-1), 1) := by decide +kernel
theorem dX5_kindOfStatement_102 : decode cX5_kindOfStatement 102 = .ok (.ireturn, 1) := by decide +kernel
theorem dX5_readRest_0 : decode cX5_readRest 0 = .ok (.aload_n 0, 1) := by decide +kernel
theorem dX5_readRest_1 : decode cX5_readRest 1 = .ok (.getfield 34, 3) := by decide +kernel
theorem dX5_readRest_4 : decode cX5_readRest 4 = .ok (.bipush 30, 2) := by decide +kernel
theorem dX5_readRest_6 : decode cX5_readRest 6 = .ok (.if_icmp .lt 12, 3) := by decide +kernel
theorem dX5_readRest_9 : decode cX5_readRest 9 = .ok (.aload_n 0, 1) := by decide +kernel
theorem dX5_readRest_10 : decode cX5_readRest 10 = .ok (.getfield 21, 3) := by decide +kernel
theorem dX5_readRest_13 : decode cX5_readRest 13 = .ok (.iconst 5, 1) := by decide +kernel
theorem dX5_readRest_14 : decode cX5_readRest 14 = .ok (.invokevirtual 49, 3) := by decide +kernel
theorem dX5_readRest_17 : decode cX5_readRest 17 = .ok (.ireturn, 1) := by decide +kernel
theorem dX5_readRest_18 : decode cX5_readRest 18 = .ok (.aload_n 0, 1) := by decide +kernel
theorem dX5_readRest_19 : decode cX5_readRest 19 = .ok (.getfield 9, 3) := by decide +kernel
theorem dX5_readRest_22 : decode cX5_readRest 22 = .ok (.aload_n 0, 1) := by decide +kernel
theorem dX5_readRest_23 : decode cX5_readRest 23 = .ok (.getfield 34, 3) := by decide +kernel
theorem dX5_readRest_26 : decode cX5_readRest 26 = .ok (.iload_n 1, 1) := by decide +kernel
theorem dX5_readRest_27 : decode cX5_readRest 27 = .ok (.iastore, 1) := by decide +kernel
theorem dX5_readRest_28 : decode cX5_readRest 28 = .ok (.aload_n 0, 1) := by decide +kernel
theorem dX5_readRest_29 : decode cX5_readRest 29 = .ok (.getfield 15, 3) := by decide +kernel
theorem dX5_readRest_32 : decode cX5_readRest 32 = .ok (.aload_n 0, 1) := by decide +kernel
theorem dX5_readRest_33 : decode cX5_readRest 33 = .ok (.getfield 34, 3) := by decide +kernel
theorem dX5_readRest_36 : decode cX5_readRest 36 = .ok (.iconst (-1), 1) := by decide +kernel
theorem dX5_readRest_37 : decode cX5_readRest 37 = .ok (.iastore, 1) := by decide +kernel
theorem dX5_readRest_38 : decode cX5_readRest 38 = .ok (.aload_n 0, 1) := by decide +kernel
theorem dX5_readRest_39 : decode cX5_readRest 39 = .ok (.getfield 18, 3) := by decide +kernel
theorem dX5_readRest_42 : decode cX5_readRest 42 = .ok (.aload_n 0, 1) := by decide +kernel
theorem dX5_readRest_43 : decode cX5_readRest 43 = .ok (.getfield 34, 3) := by decide +kernel
theorem dX5_readRest_46 : decode cX5_readRest 46 = .ok (.iconst 0, 1) := by decide +kernel
theorem dX5_readRest_47 : decode cX5_readRest 47 = .ok (.iastore, 1) := by decide +kernel
theorem dX5_readRest_48 : decode cX5_readRest 48 = .ok (.aload_n 0, 1) := by decide +kernel
theorem dX5_readRest_49 : decode cX5_readRest 49 = .ok (.iload_n 1, 1) := by decide +kernel
theorem dX5_readRest_50 : decode cX5_readRest 50 = .ok (.invokevirtual 74, 3) := by decide +kernel
theorem dX5_readRest_53 : decode cX5_readRest 53 = .ok (.ifCond .eq 11, 3) := by decide +kernel
theorem dX5_readRest_56 : decode cX5_readRest 56 = .ok (.aload_n 0, 1) := by decide +kernel
theorem dX5_readRest_57 : decode cX5_readRest 57 = .ok (.iload_n 1, 1) := by decide +kernel
theorem dX5_readRest_58 : decode cX5_readRest 58 = .ok (.invokevirtual 77, 3) := by decide +kernel
theorem dX5_readRest_61 : decode cX5_readRest 61 = .ok (.ifCond .ne 5, 3) := by decide +kernel
theorem dX5_readRest_64 : decode cX5_readRest 64 = .ok (.iconst 0, 1) := by decide +kernel
theorem dX5_readRest_65 : decode cX5_readRest 65 = .ok (.ireturn, 1) := by decide +kernel
theorem dX5_readRest_66 : decode cX5_readRest 66 = .ok (.aload_n 0, 1) := by decide +kernel
theorem dX5_readRest_67 : decode cX5_readRest 67 = .ok (.dup, 1) := by decide +kernel
theorem dX5_readRest_68 : decode cX5_readRest 68 = .ok (.getfield 34, 3) := by decide +kernel
theorem dX5_readRest_71 : decode cX5_readRest 71 = .ok (.iconst 1, 1) := by decide +kernel
theorem dX5_readRest_72 : decode cX5_readRest 72 = .ok (.iadd, 1) := by decide +kernel
theorem dX5_readRest_73 : decode cX5_readRest 73 = .ok (.putfield 34, 3) := by decide +kernel
theorem dX5_readRest_76 : decode cX5_readRest 76 = .ok (.aload_n 0, 1) := by decide +kernel
theorem dX5_readRest_77 : decode cX5_readRest 77 = .ok (.getfield 21, 3) := by decide +kernel
theorem dX5_readRest_80 : decode cX5_readRest 80 = .ok (.invokevirtual 80, 3) := by decide +kernel
theorem dX5_readRest_83 : decode cX5_readRest 83 = .ok (.ireturn, 1) := by decide +kernel
theorem dX5_readSackName_0 : decode cX5_readSackName 0 = .ok (.iload_n 1, 1) := by decide +kernel
theorem dX5_readSackName_1 : decode cX5_readSackName 1 = .ok (.ifCond .eq 14, 3) := by decide +kernel
theorem dX5_readSackName_4 : decode cX5_readSackName 4 = .ok (.iload_n 1, 1) := by decide +kernel
theorem dX5_readSackName_5 : decode cX5_readSackName 5 = .ok (.iconst 5, 1) := by decide +kernel
theorem dX5_readSackName_6 : decode cX5_readSackName 6 = .ok (.if_icmp .eq 9, 3) := by decide +kernel
theorem dX5_readSackName_9 : decode cX5_readSackName 9 = .ok (.iload_n 1, 1) := by decide +kernel
theorem dX5_readSackName_10 : decode cX5_readSackName 10 = .ok (.bipush 6, 2) := by decide +kernel
theorem dX5_readSackName_12 : decode cX5_readSackName 12 = .ok (.if_icmp .ne 5, 3) := by decide +kernel
theorem dX5_readSackName_15 : decode cX5_readSackName 15 = .ok (.iconst 1, 1) := by decide +kernel
theorem dX5_readSackName_16 : decode cX5_readSackName 16 = .ok (.ireturn, 1) := by decide +kernel
theorem dX5_readSackName_17 : decode cX5_readSackName 17 = .ok (.aload_n 0, 1) := by decide +kernel
theorem dX5_readSackName_18 : decode cX5_readSackName 18 = .ok (.getfield 21, 3) := by decide +kernel
theorem dX5_readSackName_21 : decode cX5_readSackName 21 = .ok (.invokevirtual 83, 3) := by decide +kernel
theorem dX5_readSackName_24 : decode cX5_readSackName 24 = .ok (.ifCond .ne 5, 3) := by decide +kernel
theorem dX5_readSackName_27 : decode cX5_readSackName 27 = .ok (.iconst 0, 1) := by decide +kernel
theorem dX5_readSackName_28 : decode cX5_readSackName 28 = .ok (.ireturn, 1) := by decide +kernel
theorem dX5_readSackName_29 : decode cX5_readSackName 29 = .ok (.aload_n 0, 1) := by decide +kernel
theorem dX5_readSackName_30 : decode cX5_readSackName 30 = .ok (.getfield 15, 3) := by decide +kernel
theorem dX5_readSackName_33 : decode cX5_readSackName 33 = .ok (.aload_n 0, 1) := by decide +kernel
theorem dX5_readSackName_34 : decode cX5_readSackName 34 = .ok (.getfield 34, 3) := by decide +kernel
theorem dX5_readSackName_37 : decode cX5_readSackName 37 = .ok (.aload_n 0, 1) := by decide +kernel
theorem dX5_readSackName_38 : decode cX5_readSackName 38 = .ok (.getfield 25, 3) := by decide +kernel
theorem dX5_readSackName_41 : decode cX5_readSackName 41 = .ok (.aload_n 0, 1) := by decide +kernel
theorem dX5_readSackName_42 : decode cX5_readSackName 42 = .ok (.getfield 21, 3) := by decide +kernel
theorem dX5_readSackName_45 : decode cX5_readSackName 45 = .ok (.invokevirtual 86, 3) := by decide +kernel
theorem dX5_readSackName_48 : decode cX5_readSackName 48 = .ok (.iastore, 1) := by decide +kernel
theorem dX5_readSackName_49 : decode cX5_readSackName 49 = .ok (.aload_n 0, 1) := by decide +kernel
theorem dX5_readSackName_50 : decode cX5_readSackName 50 = .ok (.getfield 15, 3) := by decide +kernel
theorem dX5_readSackName_53 : decode cX5_readSackName 53 = .ok (.aload_n 0, 1) := by decide +kernel
theorem dX5_readSackName_54 : decode cX5_readSackName 54 = .ok (.getfield 34, 3) := by decide +kernel
theorem dX5_readSackName_57 : decode cX5_readSackName 57 = .ok (.iaload, 1) := by decide +kernel
theorem dX5_readSackName_58 : decode cX5_readSackName 58 = .ok (.iconst (-1), 1) := by decide +kernel
theorem dX5_readSackName_59 : decode cX5_readSackName 59 = .ok (.if_icmp .ne 14, 3) := by decide +kernel
theorem dX5_readSackName_62 : decode cX5_readSackName 62 = .ok (.aload_n 0, 1) := by decide +kernel
theorem dX5_readSackName_63 : decode cX5_readSackName 63 = .ok (.getfield 21, 3) := by decide +kernel
theorem dX5_readSackName_66 : decode cX5_readSackName 66 = .ok (.iconst 4, 1) := by decide +kernel
theorem dX5_readSackName_67 : decode cX5_readSackName 67 = .ok (.invokevirtual 49, 3) := by decide +kernel
theorem dX5_readSackName_70 : decode cX5_readSackName 70 = .ok (.ifCond .eq 7, 3) := by decide +kernel
theorem dX5_readSackName_73 : decode cX5_readSackName 73 = .ok (.iconst 1, 1) := by decide +kernel
theorem dX5_readSackName_74 : decode cX5_readSackName 74 = .ok (.goto 4, 3) := by decide +kernel
theorem dX5_readSackName_77 : decode cX5_readSackName 77 = .ok (.iconst 0, 1) := by decide +kernel
theorem dX5_readSackName_78 : decode cX5_readSackName 78 = .ok (.ireturn, 1) := by decide +kernel
theorem dX5_readNumber_0 : decode cX5_readNumber 0 = .ok (.iload_n 1, 1) := by decide +kernel
theorem dX5_readNumber_1 : decode cX5_readNumber 1 = .ok (.iconst 1, 1) := by decide +kernel
theorem dX5_readNumber_2 : decode cX5_readNumber 2 = .ok (.if_icmp .eq 13, 3) := by decide +kernel
theorem dX5_readNumber_5 : decode cX5_readNumber 5 = .ok (.iload_n 1, 1) := by decide +kernel
theorem dX5_readNumber_6 : decode cX5_readNumber 6 = .ok (.iconst 2, 1) := by decide +kernel
theorem dX5_readNumber_7 : decode cX5_readNumber 7 = .ok (.if_icmp .eq 8, 3) := by decide +kernel
theorem dX5_readNumber_10 : decode cX5_readNumber 10 = .ok (.iload_n 1, 1) := by decide +kernel
theorem dX5_readNumber_11 : decode cX5_readNumber 11 = .ok (.iconst 5, 1) := by decide +kernel
theorem dX5_readNumber_12 : decode cX5_readNumber 12 = .ok (.if_icmp .ne 5, 3) := by decide +kernel
theorem dX5_readNumber_15 : decode cX5_readNumber 15 = .ok (.iconst 1, 1) := by decide +kernel
theorem dX5_readNumber_16 : decode cX5_readNumber 16 = .ok (.ireturn, 1) := by decide +kernel
theorem dX5_readNumber_17 : decode cX5_readNumber 17 = .ok (.iload_n 1, 1) := by decide +kernel
theorem dX5_readNumber_18 : decode cX5_readNumber 18 = .ok (.bipush 6, 2) := by decide +kernel
theorem dX5_readNumber_20 : decode cX5_readNumber 20 = .ok (.if_icmp .ne 7, 3) := by decide +kernel
theorem dX5_readNumber_23 : decode cX5_readNumber 23 = .ok (.iconst 0, 1) := by decide +kernel
theorem dX5_readNumber_24 : decode cX5_readNumber 24 = .ok (.goto 4, 3) := by decide +kernel
theorem dX5_readNumber_27 : decode cX5_readNumber 27 = .ok (.iconst 1, 1) := by decide +kernel
theorem dX5_readNumber_28 : decode cX5_readNumber 28 = .ok (.istore_n 2, 1) := by decide +kernel
theorem dX5_readNumber_29 : decode cX5_readNumber 29 = .ok (.aload_n 0, 1) := by decide +kernel
theorem dX5_readNumber_30 : decode cX5_readNumber 30 = .ok (.getfield 21, 3) := by decide +kernel
theorem dX5_readNumber_33 : decode cX5_readNumber 33 = .ok (.iload_n 2, 1) := by decide +kernel
theorem dX5_readNumber_34 : decode cX5_readNumber 34 = .ok (.iload_n 1, 1) := by decide +kernel
theorem dX5_readNumber_35 : decode cX5_readNumber 35 = .ok (.invokestatic 92, 3) := by decide +kernel
theorem dX5_readNumber_38 : decode cX5_readNumber 38 = .ok (.invokevirtual 96, 3) := by decide +kernel
theorem dX5_readNumber_41 : decode cX5_readNumber 41 = .ok (.ifCond .ne 5, 3) := by decide +kernel
theorem dX5_readNumber_44 : decode cX5_readNumber 44 = .ok (.iconst 0, 1) := by decide +kernel
theorem dX5_readNumber_45 : decode cX5_readNumber 45 = .ok (.ireturn, 1) := by decide +kernel
theorem dX5_readNumber_46 : decode cX5_readNumber 46 = .ok (.aload_n 0, 1) := by decide +kernel
theorem dX5_readNumber_47 : decode cX5_readNumber 47 = .ok (.getfield 18, 3) := by decide +kernel
theorem dX5_readNumber_50 : decode cX5_readNumber 50 = .ok (.aload_n 0, 1) := by decide +kernel
theorem dX5_readNumber_51 : decode cX5_readNumber 51 = .ok (.getfield 34, 3) := by decide +kernel
theorem dX5_readNumber_54 : decode cX5_readNumber 54 = .ok (.aload_n 0, 1) := by decide +kernel
theorem dX5_readNumber_55 : decode cX5_readNumber 55 = .ok (.getfield 21, 3) := by decide +kernel
theorem dX5_readNumber_58 : decode cX5_readNumber 58 = .ok (.getfield 100, 3) := by decide +kernel
theorem dX5_readNumber_61 : decode cX5_readNumber 61 = .ok (.iastore, 1) := by decide +kernel
theorem dX5_readNumber_62 : decode cX5_readNumber 62 = .ok (.iconst 1, 1) := by decide +kernel
theorem dX5_readNumber_63 : decode cX5_readNumber 63 = .ok (.ireturn, 1) := by decide +kernel
theorem dX5_mostOf_0 : decode cX5_mostOf 0 = .ok (.iload_n 0, 1) := by decide +kernel
theorem dX5_mostOf_1 : decode cX5_mostOf 1 = .ok (.tableswitch 45 0 4 #[35, 45, 45, 38, 41], 35) := by decide +kernel
theorem dX5_mostOf_36 : decode cX5_mostOf 36 = .ok (.bipush 99, 2) := by decide +kernel
theorem dX5_mostOf_38 : decode cX5_mostOf 38 = .ok (.ireturn, 1) := by decide +kernel
theorem dX5_mostOf_39 : decode cX5_mostOf 39 = .ok (.bipush 99, 2) := by decide +kernel
theorem dX5_mostOf_41 : decode cX5_mostOf 41 = .ok (.ireturn, 1) := by decide +kernel
theorem dX5_mostOf_42 : decode cX5_mostOf 42 = .ok (.sipush 999, 3) := by decide +kernel
theorem dX5_mostOf_45 : decode cX5_mostOf 45 = .ok (.ireturn, 1) := by decide +kernel
theorem dX5_mostOf_46 : decode cX5_mostOf 46 = .ok (.bipush 9, 2) := by decide +kernel
theorem dX5_mostOf_48 : decode cX5_mostOf 48 = .ok (.ireturn, 1) := by decide +kernel
theorem dX5_execute_0 : decode cX5_execute 0 = .ok (.iconst 0, 1) := by decide +kernel
theorem dX5_execute_1 : decode cX5_execute 1 = .ok (.istore_n 1, 1) := by decide +kernel
theorem dX5_execute_2 : decode cX5_execute 2 = .ok (.iload_n 1, 1) := by decide +kernel
theorem dX5_execute_3 : decode cX5_execute 3 = .ok (.aload_n 0, 1) := by decide +kernel
theorem dX5_execute_4 : decode cX5_execute 4 = .ok (.getfield 34, 3) := by decide +kernel
theorem dX5_execute_7 : decode cX5_execute 7 = .ok (.if_icmp .ge 65, 3) := by decide +kernel
theorem dX5_execute_10 : decode cX5_execute 10 = .ok (.aload_n 0, 1) := by decide +kernel
theorem dX5_execute_11 : decode cX5_execute 11 = .ok (.getfield 25, 3) := by decide +kernel
theorem dX5_execute_14 : decode cX5_execute 14 = .ok (.aload_n 0, 1) := by decide +kernel
theorem dX5_execute_15 : decode cX5_execute 15 = .ok (.getfield 9, 3) := by decide +kernel
theorem dX5_execute_18 : decode cX5_execute 18 = .ok (.iload_n 1, 1) := by decide +kernel
theorem dX5_execute_19 : decode cX5_execute 19 = .ok (.iaload, 1) := by decide +kernel
theorem dX5_execute_20 : decode cX5_execute 20 = .ok (.aload_n 0, 1) := by decide +kernel
theorem dX5_execute_21 : decode cX5_execute 21 = .ok (.getfield 15, 3) := by decide +kernel
theorem dX5_execute_24 : decode cX5_execute 24 = .ok (.iload_n 1, 1) := by decide +kernel
theorem dX5_execute_25 : decode cX5_execute 25 = .ok (.iaload, 1) := by decide +kernel
theorem dX5_execute_26 : decode cX5_execute 26 = .ok (.aload_n 0, 1) := by decide +kernel
theorem dX5_execute_27 : decode cX5_execute 27 = .ok (.getfield 18, 3) := by decide +kernel
theorem dX5_execute_30 : decode cX5_execute 30 = .ok (.iload_n 1, 1) := by decide +kernel
theorem dX5_execute_31 : decode cX5_execute 31 = .ok (.iaload, 1) := by decide +kernel
theorem dX5_execute_32 : decode cX5_execute 32 = .ok (.invokevirtual 103, 3) := by decide +kernel
theorem dX5_execute_35 : decode cX5_execute 35 = .ok (.ifCond .ne 5, 3) := by decide +kernel
theorem dX5_execute_38 : decode cX5_execute 38 = .ok (.iload_n 1, 1) := by decide +kernel
theorem dX5_execute_39 : decode cX5_execute 39 = .ok (.ireturn, 1) := by decide +kernel
theorem dX5_execute_40 : decode cX5_execute 40 = .ok (.aload_n 0, 1) := by decide +kernel
theorem dX5_execute_41 : decode cX5_execute 41 = .ok (.getfield 25, 3) := by decide +kernel
theorem dX5_execute_44 : decode cX5_execute 44 = .ok (.aload_n 0, 1) := by decide +kernel
theorem dX5_execute_45 : decode cX5_execute 45 = .ok (.getfield 9, 3) := by decide +kernel
theorem dX5_execute_48 : decode cX5_execute 48 = .ok (.iload_n 1, 1) := by decide +kernel
theorem dX5_execute_49 : decode cX5_execute 49 = .ok (.iaload, 1) := by decide +kernel
theorem dX5_execute_50 : decode cX5_execute 50 = .ok (.aload_n 0, 1) := by decide +kernel
theorem dX5_execute_51 : decode cX5_execute 51 = .ok (.getfield 15, 3) := by decide +kernel
theorem dX5_execute_54 : decode cX5_execute 54 = .ok (.iload_n 1, 1) := by decide +kernel
theorem dX5_execute_55 : decode cX5_execute 55 = .ok (.iaload, 1) := by decide +kernel
theorem dX5_execute_56 : decode cX5_execute 56 = .ok (.aload_n 0, 1) := by decide +kernel
theorem dX5_execute_57 : decode cX5_execute 57 = .ok (.getfield 18, 3) := by decide +kernel
theorem dX5_execute_60 : decode cX5_execute 60 = .ok (.iload_n 1, 1) := by decide +kernel
theorem dX5_execute_61 : decode cX5_execute 61 = .ok (.iaload, 1) := by decide +kernel
theorem dX5_execute_62 : decode cX5_execute 62 = .ok (.invokevirtual 107, 3) := by decide +kernel
theorem dX5_execute_65 : decode cX5_execute 65 = .ok (.pop, 1) := by decide +kernel
theorem dX5_execute_66 : decode cX5_execute 66 = .ok (.iinc 1 1, 3) := by decide +kernel
theorem dX5_execute_69 : decode cX5_execute 69 = .ok (.goto (-67), 3) := by decide +kernel
theorem dX5_execute_72 : decode cX5_execute 72 = .ok (.aload_n 0, 1) := by decide +kernel
theorem dX5_execute_73 : decode cX5_execute 73 = .ok (.getfield 34, 3) := by decide +kernel
theorem dX5_execute_76 : decode cX5_execute 76 = .ok (.ireturn, 1) := by decide +kernel
theorem dX6_init_0 : decode cX6_init 0 = .ok (.aload_n 0, 1) := by decide +kernel
theorem dX6_init_1 : decode cX6_init 1 = .ok (.invokespecial 3, 3) := by decide +kernel
theorem dX6_init_4 : decode cX6_init 4 = .ok (.aload_n 0, 1) := by decide +kernel
theorem dX6_init_5 : decode cX6_init 5 = .ok (.aload_n 1, 1) := by decide +kernel
theorem dX6_init_6 : decode cX6_init 6 = .ok (.putfield 9, 3) := by decide +kernel
theorem dX6_init_9 : decode cX6_init 9 = .ok (.aload_n 0, 1) := by decide +kernel
theorem dX6_init_10 : decode cX6_init 10 = .ok (.aload_n 2, 1) := by decide +kernel
theorem dX6_init_11 : decode cX6_init 11 = .ok (.putfield 15, 3) := by decide +kernel
theorem dX6_init_14 : decode cX6_init 14 = .ok (.return_, 1) := by decide +kernel
theorem dX6_parse_0 : decode cX6_parse 0 = .ok (.aload_n 0, 1) := by decide +kernel
theorem dX6_parse_1 : decode cX6_parse 1 = .ok (.getfield 9, 3) := by decide +kernel
theorem dX6_parse_4 : decode cX6_parse 4 = .ok (.invokevirtual 19, 3) := by decide +kernel
theorem dX6_parse_7 : decode cX6_parse 7 = .ok (.aload_n 0, 1) := by decide +kernel
theorem dX6_parse_8 : decode cX6_parse 8 = .ok (.getfield 15, 3) := by decide +kernel
theorem dX6_parse_11 : decode cX6_parse 11 = .ok (.invokevirtual 24, 3) := by decide +kernel
theorem dX6_parse_14 : decode cX6_parse 14 = .ok (.iconst 0, 1) := by decide +kernel
theorem dX6_parse_15 : decode cX6_parse 15 = .ok (.istore_n 1, 1) := by decide +kernel
theorem dX6_parse_16 : decode cX6_parse 16 = .ok (.iload_n 1, 1) := by decide +kernel
theorem dX6_parse_17 : decode cX6_parse 17 = .ok (.aload_n 0, 1) := by decide +kernel
theorem dX6_parse_18 : decode cX6_parse 18 = .ok (.getfield 9, 3) := by decide +kernel
theorem dX6_parse_21 : decode cX6_parse 21 = .ok (.getfield 29, 3) := by decide +kernel
theorem dX6_parse_24 : decode cX6_parse 24 = .ok (.if_icmp .gt 28, 3) := by decide +kernel
theorem dX6_parse_27 : decode cX6_parse 27 = .ok (.aload_n 0, 1) := by decide +kernel
theorem dX6_parse_28 : decode cX6_parse 28 = .ok (.getfield 9, 3) := by decide +kernel
theorem dX6_parse_31 : decode cX6_parse 31 = .ok (.invokevirtual 33, 3) := by decide +kernel
theorem dX6_parse_34 : decode cX6_parse 34 = .ok (.ifCond .eq 18, 3) := by decide +kernel
theorem dX6_parse_37 : decode cX6_parse 37 = .ok (.aload_n 0, 1) := by decide +kernel
theorem dX6_parse_38 : decode cX6_parse 38 = .ok (.invokevirtual 37, 3) := by decide +kernel
theorem dX6_parse_41 : decode cX6_parse 41 = .ok (.ifCond .ne 5, 3) := by decide +kernel
theorem dX6_parse_44 : decode cX6_parse 44 = .ok (.iconst 0, 1) := by decide +kernel
theorem dX6_parse_45 : decode cX6_parse 45 = .ok (.ireturn, 1) := by decide +kernel
theorem dX6_parse_46 : decode cX6_parse 46 = .ok (.iinc 1 1, 3) := by decide +kernel
theorem dX6_parse_49 : decode cX6_parse 49 = .ok (.goto (-33), 3) := by decide +kernel
theorem dX6_parse_52 : decode cX6_parse 52 = .ok (.aload_n 0, 1) := by decide +kernel
theorem dX6_parse_53 : decode cX6_parse 53 = .ok (.getfield 15, 3) := by decide +kernel
theorem dX6_parse_56 : decode cX6_parse 56 = .ok (.getfield 40, 3) := by decide +kernel
theorem dX6_parse_59 : decode cX6_parse 59 = .ok (.ifCond .eq 23, 3) := by decide +kernel
theorem dX6_parse_62 : decode cX6_parse 62 = .ok (.aload_n 0, 1) := by decide +kernel
theorem dX6_parse_63 : decode cX6_parse 63 = .ok (.getfield 15, 3) := by decide +kernel
theorem dX6_parse_66 : decode cX6_parse 66 = .ok (.getfield 43, 3) := by decide +kernel
theorem dX6_parse_69 : decode cX6_parse 69 = .ok (.ifCond .eq 13, 3) := by decide +kernel
theorem dX6_parse_72 : decode cX6_parse 72 = .ok (.aload_n 0, 1) := by decide +kernel
theorem dX6_parse_73 : decode cX6_parse 73 = .ok (.getfield 15, 3) := by decide +kernel
theorem dX6_parse_76 : decode cX6_parse 76 = .ok (.getfield 46, 3) := by decide +kernel
theorem dX6_parse_79 : decode cX6_parse 79 = .ok (.ifCond .ne 13, 3) := by decide +kernel
theorem dX6_parse_82 : decode cX6_parse 82 = .ok (.aload_n 0, 1) := by decide +kernel
theorem dX6_parse_83 : decode cX6_parse 83 = .ok (.getfield 9, 3) := by decide +kernel
theorem dX6_parse_86 : decode cX6_parse 86 = .ok (.bipush 6, 2) := by decide +kernel
theorem dX6_parse_88 : decode cX6_parse 88 = .ok (.invokevirtual 49, 3) := by decide +kernel
theorem dX6_parse_91 : decode cX6_parse 91 = .ok (.ireturn, 1) := by decide +kernel
theorem dX6_parse_92 : decode cX6_parse 92 = .ok (.aload_n 0, 1) := by decide +kernel
theorem dX6_parse_93 : decode cX6_parse 93 = .ok (.getfield 15, 3) := by decide +kernel
theorem dX6_parse_96 : decode cX6_parse 96 = .ok (.invokevirtual 53, 3) := by decide +kernel
theorem dX6_parse_99 : decode cX6_parse 99 = .ok (.iconst 1, 1) := by decide +kernel
theorem dX6_parse_100 : decode cX6_parse 100 = .ok (.ireturn, 1) := by decide +kernel
theorem dX6_readStatement_0 : decode cX6_readStatement 0 = .ok (.aload_n 0, 1) := by decide +kernel
theorem dX6_readStatement_1 : decode cX6_readStatement 1 = .ok (.getfield 9, 3) := by decide +kernel
theorem dX6_readStatement_4 : decode cX6_readStatement 4 = .ok (.ldc 54, 2) := by decide +kernel
theorem dX6_readStatement_6 : decode cX6_readStatement 6 = .ok (.invokevirtual 56, 3) := by decide +kernel
theorem dX6_readStatement_9 : decode cX6_readStatement 9 = .ok (.ifCond .eq 8, 3) := by decide +kernel
theorem dX6_readStatement_12 : decode cX6_readStatement 12 = .ok (.aload_n 0, 1) := by decide +kernel
theorem dX6_readStatement_13 : decode cX6_readStatement 13 = .ok (.invokevirtual 60, 3) := by decide +kernel
theorem dX6_readStatement_16 : decode cX6_readStatement 16 = .ok (.ireturn, 1) := by decide +kernel
theorem dX6_readStatement_17 : decode cX6_readStatement 17 = .ok (.aload_n 0, 1) := by decide +kernel
theorem dX6_readStatement_18 : decode cX6_readStatement 18 = .ok (.getfield 9, 3) := by decide +kernel
theorem dX6_readStatement_21 : decode cX6_readStatement 21 = .ok (.ldc 63, 2) := by decide +kernel
theorem dX6_readStatement_23 : decode cX6_readStatement 23 = .ok (.invokevirtual 56, 3) := by decide +kernel
theorem dX6_readStatement_26 : decode cX6_readStatement 26 = .ok (.ifCond .eq 8, 3) := by decide +kernel
theorem dX6_readStatement_29 : decode cX6_readStatement 29 = .ok (.aload_n 0, 1) := by decide +kernel
theorem dX6_readStatement_30 : decode cX6_readStatement 30 = .ok (.invokevirtual 65, 3) := by decide +kernel
theorem dX6_readStatement_33 : decode cX6_readStatement 33 = .ok (.ireturn, 1) := by decide +kernel
theorem dX6_readStatement_34 : decode cX6_readStatement 34 = .ok (.aload_n 0, 1) := by decide +kernel
theorem dX6_readStatement_35 : decode cX6_readStatement 35 = .ok (.getfield 9, 3) := by decide +kernel
theorem dX6_readStatement_38 : decode cX6_readStatement 38 = .ok (.ldc 68, 2) := by decide +kernel
theorem dX6_readStatement_40 : decode cX6_readStatement 40 = .ok (.invokevirtual 56, 3) := by decide +kernel
theorem dX6_readStatement_43 : decode cX6_readStatement 43 = .ok (.ifCond .eq 8, 3) := by decide +kernel
theorem dX6_readStatement_46 : decode cX6_readStatement 46 = .ok (.aload_n 0, 1) := by decide +kernel
theorem dX6_readStatement_47 : decode cX6_readStatement 47 = .ok (.invokevirtual 70, 3) := by decide +kernel
theorem dX6_readStatement_50 : decode cX6_readStatement 50 = .ok (.ireturn, 1) := by decide +kernel
theorem dX6_readStatement_51 : decode cX6_readStatement 51 = .ok (.aload_n 0, 1) := by decide +kernel
theorem dX6_readStatement_52 : decode cX6_readStatement 52 = .ok (.getfield 9, 3) := by decide +kernel
theorem dX6_readStatement_55 : decode cX6_readStatement 55 = .ok (.ldc 73, 2) := by decide +kernel
theorem dX6_readStatement_57 : decode cX6_readStatement 57 = .ok (.invokevirtual 56, 3) := by decide +kernel
theorem dX6_readStatement_60 : decode cX6_readStatement 60 = .ok (.ifCond .eq 8, 3) := by decide +kernel
theorem dX6_readStatement_63 : decode cX6_readStatement 63 = .ok (.aload_n 0, 1) := by decide +kernel
theorem dX6_readStatement_64 : decode cX6_readStatement 64 = .ok (.invokevirtual 75, 3) := by decide +kernel
theorem dX6_readStatement_67 : decode cX6_readStatement 67 = .ok (.ireturn, 1) := by decide +kernel
theorem dX6_readStatement_68 : decode cX6_readStatement 68 = .ok (.aload_n 0, 1) := by decide +kernel
theorem dX6_readStatement_69 : decode cX6_readStatement 69 = .ok (.getfield 9, 3) := by decide +kernel
theorem dX6_readStatement_72 : decode cX6_readStatement 72 = .ok (.ldc 78, 2) := by decide +kernel
theorem dX6_readStatement_74 : decode cX6_readStatement 74 = .ok (.invokevirtual 56, 3) := by decide +kernel
theorem dX6_readStatement_77 : decode cX6_readStatement 77 = .ok (.ifCond .eq 10, 3) := by decide +kernel
theorem dX6_readStatement_80 : decode cX6_readStatement 80 = .ok (.aload_n 0, 1) := by decide +kernel
theorem dX6_readStatement_81 : decode cX6_readStatement 81 = .ok (.invokevirtual 80, 3) := by decide +kernel
theorem dX6_readStatement_84 : decode cX6_readStatement 84 = .ok (.goto 11, 3) := by decide +kernel
theorem dX6_readStatement_87 : decode cX6_readStatement 87 = .ok (.aload_n 0, 1) := by decide +kernel
theorem dX6_readStatement_88 : decode cX6_readStatement 88 = .ok (.getfield 9, 3) := by decide +kernel
theorem dX6_readStatement_91 : decode cX6_readStatement 91 = .ok (.iconst 1, 1) := by decide +kernel
theorem dX6_readStatement_92 : decode cX6_readStatement 92 = .ok (.invokevirtual 49, 3) := by decide +kernel
theorem dX6_readStatement_95 : decode cX6_readStatement 95 = .ok (.ireturn, 1) := by decide +kernel
theorem dX6_readCat_0 : decode cX6_readCat 0 = .ok (.aload_n 0, 1) := by decide +kernel
theorem dX6_readCat_1 : decode cX6_readCat 1 = .ok (.getfield 15, 3) := by decide +kernel
theorem dX6_readCat_4 : decode cX6_readCat 4 = .ok (.getfield 40, 3) := by decide +kernel
theorem dX6_readCat_7 : decode cX6_readCat 7 = .ok (.bipush 8, 2) := by decide +kernel
theorem dX6_readCat_9 : decode cX6_readCat 9 = .ok (.if_icmp .lt 12, 3) := by decide +kernel
theorem dX6_readCat_12 : decode cX6_readCat 12 = .ok (.aload_n 0, 1) := by decide +kernel
theorem dX6_readCat_13 : decode cX6_readCat 13 = .ok (.getfield 9, 3) := by decide +kernel
theorem dX6_readCat_16 : decode cX6_readCat 16 = .ok (.iconst 5, 1) := by decide +kernel
theorem dX6_readCat_17 : decode cX6_readCat 17 = .ok (.invokevirtual 49, 3) := by decide +kernel
theorem dX6_readCat_20 : decode cX6_readCat 20 = .ok (.ireturn, 1) := by decide +kernel
theorem dX6_readCat_21 : decode cX6_readCat 21 = .ok (.aload_n 0, 1) := by decide +kernel
theorem dX6_readCat_22 : decode cX6_readCat 22 = .ok (.getfield 9, 3) := by decide +kernel
theorem dX6_readCat_25 : decode cX6_readCat 25 = .ok (.invokevirtual 83, 3) := by decide +kernel
theorem dX6_readCat_28 : decode cX6_readCat 28 = .ok (.ifCond .ne 5, 3) := by decide +kernel
theorem dX6_readCat_31 : decode cX6_readCat 31 = .ok (.iconst 0, 1) := by decide +kernel
theorem dX6_readCat_32 : decode cX6_readCat 32 = .ok (.ireturn, 1) := by decide +kernel
theorem dX6_readCat_33 : decode cX6_readCat 33 = .ok (.aload_n 0, 1) := by decide +kernel
theorem dX6_readCat_34 : decode cX6_readCat 34 = .ok (.getfield 15, 3) := by decide +kernel
theorem dX6_readCat_37 : decode cX6_readCat 37 = .ok (.aload_n 0, 1) := by decide +kernel
theorem dX6_readCat_38 : decode cX6_readCat 38 = .ok (.getfield 9, 3) := by decide +kernel
theorem dX6_readCat_41 : decode cX6_readCat 41 = .ok (.invokevirtual 86, 3) := by decide +kernel
theorem dX6_readCat_44 : decode cX6_readCat 44 = .ok (.iconst (-1), 1) := by decide +kernel
theorem dX6_readCat_45 : decode cX6_readCat 45 = .ok (.if_icmp .eq 12, 3) := by decide +kernel
theorem dX6_readCat_48 : decode cX6_readCat 48 = .ok (.aload_n 0, 1) := by decide +kernel
theorem dX6_readCat_49 : decode cX6_readCat 49 = .ok (.getfield 9, 3) := by decide +kernel
theorem dX6_readCat_52 : decode cX6_readCat 52 = .ok (.iconst 3, 1) := by decide +kernel
theorem dX6_readCat_53 : decode cX6_readCat 53 = .ok (.invokevirtual 49, 3) := by decide +kernel
theorem dX6_readCat_56 : decode cX6_readCat 56 = .ok (.ireturn, 1) := by decide +kernel
theorem dX6_readCat_57 : decode cX6_readCat 57 = .ok (.aload_n 0, 1) := by decide +kernel
theorem dX6_readCat_58 : decode cX6_readCat 58 = .ok (.getfield 15, 3) := by decide +kernel
theorem dX6_readCat_61 : decode cX6_readCat 61 = .ok (.getfield 90, 3) := by decide +kernel
theorem dX6_readCat_64 : decode cX6_readCat 64 = .ok (.aload_n 0, 1) := by decide +kernel
theorem dX6_readCat_65 : decode cX6_readCat 65 = .ok (.getfield 15, 3) := by decide +kernel
theorem dX6_readCat_68 : decode cX6_readCat 68 = .ok (.getfield 40, 3) := by decide +kernel
theorem dX6_readCat_71 : decode cX6_readCat 71 = .ok (.aaload, 1) := by decide +kernel
theorem dX6_readCat_72 : decode cX6_readCat 72 = .ok (.astore_n 1, 1) := by decide +kernel
theorem dX6_readCat_73 : decode cX6_readCat 73 = .ok (.aload_n 1, 1) := by decide +kernel
theorem dX6_readCat_74 : decode cX6_readCat 74 = .ok (.invokevirtual 94, 3) := by decide +kernel
theorem dX6_readCat_77 : decode cX6_readCat 77 = .ok (.aload_n 1, 1) := by decide +kernel
theorem dX6_readCat_78 : decode cX6_readCat 78 = .ok (.aload_n 0, 1) := by decide +kernel
theorem dX6_readCat_79 : decode cX6_readCat 79 = .ok (.getfield 9, 3) := by decide +kernel
theorem dX6_readCat_82 : decode cX6_readCat 82 = .ok (.invokevirtual 97, 3) := by decide +kernel
theorem dX6_readCat_85 : decode cX6_readCat 85 = .ok (.putfield 101, 3) := by decide +kernel
theorem dX6_readCat_88 : decode cX6_readCat 88 = .ok (.aload_n 0, 1) := by decide +kernel
theorem dX6_readCat_89 : decode cX6_readCat 89 = .ok (.getfield 9, 3) := by decide +kernel
theorem dX6_readCat_92 : decode cX6_readCat 92 = .ok (.iconst 1, 1) := by decide +kernel
theorem dX6_readCat_93 : decode cX6_readCat 93 = .ok (.bipush 9, 2) := by decide +kernel
theorem dX6_readCat_95 : decode cX6_readCat 95 = .ok (.invokevirtual 105, 3) := by decide +kernel
theorem dX6_readCat_98 : decode cX6_readCat 98 = .ok (.ifCond .ne 5, 3) := by decide +kernel
theorem dX6_readCat_101 : decode cX6_readCat 101 = .ok (.iconst 0, 1) := by decide +kernel
theorem dX6_readCat_102 : decode cX6_readCat 102 = .ok (.ireturn, 1) := by decide +kernel
theorem dX6_readCat_103 : decode cX6_readCat 103 = .ok (.aload_n 1, 1) := by decide +kernel
theorem dX6_readCat_104 : decode cX6_readCat 104 = .ok (.aload_n 0, 1) := by decide +kernel
theorem dX6_readCat_105 : decode cX6_readCat 105 = .ok (.getfield 9, 3) := by decide +kernel
theorem dX6_readCat_108 : decode cX6_readCat 108 = .ok (.getfield 109, 3) := by decide +kernel
theorem dX6_readCat_111 : decode cX6_readCat 111 = .ok (.putfield 112, 3) := by decide +kernel
theorem dX6_readCat_114 : decode cX6_readCat 114 = .ok (.aload_n 0, 1) := by decide +kernel
theorem dX6_readCat_115 : decode cX6_readCat 115 = .ok (.getfield 9, 3) := by decide +kernel
theorem dX6_readCat_118 : decode cX6_readCat 118 = .ok (.ldc 115, 2) := by decide +kernel
theorem dX6_readCat_120 : decode cX6_readCat 120 = .ok (.ldc 117, 2) := by decide +kernel
theorem dX6_readCat_122 : decode cX6_readCat 122 = .ok (.invokevirtual 119, 3) := by decide +kernel
theorem dX6_readCat_125 : decode cX6_readCat 125 = .ok (.ifCond .ne 5, 3) := by decide +kernel
theorem dX6_readCat_128 : decode cX6_readCat 128 = .ok (.iconst 0, 1) := by decide +kernel
theorem dX6_readCat_129 : decode cX6_readCat 129 = .ok (.ireturn, 1) := by decide +kernel
theorem dX6_readCat_130 : decode cX6_readCat 130 = .ok (.aload_n 1, 1) := by decide +kernel
theorem dX6_readCat_131 : decode cX6_readCat 131 = .ok (.aload_n 0, 1) := by decide +kernel
theorem dX6_readCat_132 : decode cX6_readCat 132 = .ok (.getfield 9, 3) := by decide +kernel
theorem dX6_readCat_135 : decode cX6_readCat 135 = .ok (.ldc 115, 2) := by decide +kernel
theorem dX6_readCat_137 : decode cX6_readCat 137 = .ok (.invokevirtual 56, 3) := by decide +kernel
theorem dX6_readCat_140 : decode cX6_readCat 140 = .ok (.putfield 123, 3) := by decide +kernel
theorem dX6_readCat_143 : decode cX6_readCat 143 = .ok (.aload_n 0, 1) := by decide +kernel
theorem dX6_readCat_144 : decode cX6_readCat 144 = .ok (.getfield 15, 3) := by decide +kernel
theorem dX6_readCat_147 : decode cX6_readCat 147 = .ok (.dup, 1) := by decide +kernel
theorem dX6_readCat_148 : decode cX6_readCat 148 = .ok (.getfield 40, 3) := by decide +kernel
theorem dX6_readCat_151 : decode cX6_readCat 151 = .ok (.iconst 1, 1) := by decide +kernel
theorem dX6_readCat_152 : decode cX6_readCat 152 = .ok (.iadd, 1) := by decide +kernel
theorem dX6_readCat_153 : decode cX6_readCat 153 = .ok (.putfield 40, 3) := by decide +kernel
theorem dX6_readCat_156 : decode cX6_readCat 156 = .ok (.aload_n 0, 1) := by decide +kernel
theorem dX6_readCat_157 : decode cX6_readCat 157 = .ok (.getfield 9, 3) := by decide +kernel
theorem dX6_readCat_160 : decode cX6_readCat 160 = .ok (.invokevirtual 126, 3) := by decide +kernel
theorem dX6_readCat_163 : decode cX6_readCat 163 = .ok (.ireturn, 1) := by decide +kernel
theorem dX6_readSack_0 : decode cX6_readSack 0 = .ok (.aload_n 0, 1) := by decide +kernel
theorem dX6_readSack_1 : decode cX6_readSack 1 = .ok (.getfield 15, 3) := by decide +kernel
theorem dX6_readSack_4 : decode cX6_readSack 4 = .ok (.getfield 43, 3) := by decide +kernel
theorem dX6_readSack_7 : decode cX6_readSack 7 = .ok (.bipush 6, 2) := by decide +kernel
theorem dX6_readSack_9 : decode cX6_readSack 9 = .ok (.if_icmp .lt 12, 3) := by decide +kernel
theorem dX6_readSack_12 : decode cX6_readSack 12 = .ok (.aload_n 0, 1) := by decide +kernel
theorem dX6_readSack_13 : decode cX6_readSack 13 = .ok (.getfield 9, 3) := by decide +kernel
theorem dX6_readSack_16 : decode cX6_readSack 16 = .ok (.iconst 5, 1) := by decide +kernel
theorem dX6_readSack_17 : decode cX6_readSack 17 = .ok (.invokevirtual 49, 3) := by decide +kernel
theorem dX6_readSack_20 : decode cX6_readSack 20 = .ok (.ireturn, 1) := by decide +kernel
theorem dX6_readSack_21 : decode cX6_readSack 21 = .ok (.aload_n 0, 1) := by decide +kernel
theorem dX6_readSack_22 : decode cX6_readSack 22 = .ok (.getfield 9, 3) := by decide +kernel
theorem dX6_readSack_25 : decode cX6_readSack 25 = .ok (.invokevirtual 83, 3) := by decide +kernel
theorem dX6_readSack_28 : decode cX6_readSack 28 = .ok (.ifCond .ne 5, 3) := by decide +kernel
theorem dX6_readSack_31 : decode cX6_readSack 31 = .ok (.iconst 0, 1) := by decide +kernel
theorem dX6_readSack_32 : decode cX6_readSack 32 = .ok (.ireturn, 1) := by decide +kernel
theorem dX6_readSack_33 : decode cX6_readSack 33 = .ok (.aload_n 0, 1) := by decide +kernel
theorem dX6_readSack_34 : decode cX6_readSack 34 = .ok (.getfield 15, 3) := by decide +kernel
theorem dX6_readSack_37 : decode cX6_readSack 37 = .ok (.aload_n 0, 1) := by decide +kernel
theorem dX6_readSack_38 : decode cX6_readSack 38 = .ok (.getfield 9, 3) := by decide +kernel
theorem dX6_readSack_41 : decode cX6_readSack 41 = .ok (.invokevirtual 129, 3) := by decide +kernel
theorem dX6_readSack_44 : decode cX6_readSack 44 = .ok (.iconst (-1), 1) := by decide +kernel
theorem dX6_readSack_45 : decode cX6_readSack 45 = .ok (.if_icmp .eq 12, 3) := by decide +kernel
theorem dX6_readSack_48 : decode cX6_readSack 48 = .ok (.aload_n 0, 1) := by decide +kernel
theorem dX6_readSack_49 : decode cX6_readSack 49 = .ok (.getfield 9, 3) := by decide +kernel
theorem dX6_readSack_52 : decode cX6_readSack 52 = .ok (.iconst 3, 1) := by decide +kernel
theorem dX6_readSack_53 : decode cX6_readSack 53 = .ok (.invokevirtual 49, 3) := by decide +kernel
theorem dX6_readSack_56 : decode cX6_readSack 56 = .ok (.ireturn, 1) := by decide +kernel
theorem dX6_readSack_57 : decode cX6_readSack 57 = .ok (.aload_n 0, 1) := by decide +kernel
theorem dX6_readSack_58 : decode cX6_readSack 58 = .ok (.getfield 15, 3) := by decide +kernel
theorem dX6_readSack_61 : decode cX6_readSack 61 = .ok (.getfield 132, 3) := by decide +kernel
theorem dX6_readSack_64 : decode cX6_readSack 64 = .ok (.aload_n 0, 1) := by decide +kernel
theorem dX6_readSack_65 : decode cX6_readSack 65 = .ok (.getfield 15, 3) := by decide +kernel
theorem dX6_readSack_68 : decode cX6_readSack 68 = .ok (.getfield 43, 3) := by decide +kernel
theorem dX6_readSack_71 : decode cX6_readSack 71 = .ok (.aaload, 1) := by decide +kernel
theorem dX6_readSack_72 : decode cX6_readSack 72 = .ok (.astore_n 1, 1) := by decide +kernel
theorem dX6_readSack_73 : decode cX6_readSack 73 = .ok (.aload_n 1, 1) := by decide +kernel
theorem dX6_readSack_74 : decode cX6_readSack 74 = .ok (.iconst 0, 1) := by decide +kernel
theorem dX6_readSack_75 : decode cX6_readSack 75 = .ok (.putfield 136, 3) := by decide +kernel
theorem dX6_readSack_78 : decode cX6_readSack 78 = .ok (.aload_n 1, 1) := by decide +kernel
theorem dX6_readSack_79 : decode cX6_readSack 79 = .ok (.aload_n 0, 1) := by decide +kernel
theorem dX6_readSack_80 : decode cX6_readSack 80 = .ok (.getfield 9, 3) := by decide +kernel
theorem dX6_readSack_83 : decode cX6_readSack 83 = .ok (.invokevirtual 97, 3) := by decide +kernel
theorem dX6_readSack_86 : decode cX6_readSack 86 = .ok (.putfield 141, 3) := by decide +kernel
theorem dX6_readSack_89 : decode cX6_readSack 89 = .ok (.aload_n 0, 1) := by decide +kernel
theorem dX6_readSack_90 : decode cX6_readSack 90 = .ok (.getfield 9, 3) := by decide +kernel
theorem dX6_readSack_93 : decode cX6_readSack 93 = .ok (.iconst 0, 1) := by decide +kernel
theorem dX6_readSack_94 : decode cX6_readSack 94 = .ok (.sipush 999, 3) := by decide +kernel
theorem dX6_readSack_97 : decode cX6_readSack 97 = .ok (.invokevirtual 105, 3) := by decide +kernel
theorem dX6_readSack_100 : decode cX6_readSack 100 = .ok (.ifCond .ne 5, 3) := by decide +kernel
theorem dX6_readSack_103 : decode cX6_readSack 103 = .ok (.iconst 0, 1) := by decide +kernel
theorem dX6_readSack_104 : decode cX6_readSack 104 = .ok (.ireturn, 1) := by decide +kernel
theorem dX6_readSack_105 : decode cX6_readSack 105 = .ok (.aload_n 1, 1) := by decide +kernel
theorem dX6_readSack_106 : decode cX6_readSack 106 = .ok (.aload_n 0, 1) := by decide +kernel
theorem dX6_readSack_107 : decode cX6_readSack 107 = .ok (.getfield 9, 3) := by decide +kernel
theorem dX6_readSack_110 : decode cX6_readSack 110 = .ok (.getfield 109, 3) := by decide +kernel
theorem dX6_readSack_113 : decode cX6_readSack 113 = .ok (.putfield 142, 3) := by decide +kernel
theorem dX6_readSack_116 : decode cX6_readSack 116 = .ok (.aload_n 0, 1) := by decide +kernel
theorem dX6_readSack_117 : decode cX6_readSack 117 = .ok (.getfield 9, 3) := by decide +kernel
theorem dX6_readSack_120 : decode cX6_readSack 120 = .ok (.iconst 0, 1) := by decide +kernel
theorem dX6_readSack_121 : decode cX6_readSack 121 = .ok (.bipush 99, 2) := by decide +kernel
theorem dX6_readSack_123 : decode cX6_readSack 123 = .ok (.invokevirtual 105, 3) := by decide +kernel
theorem dX6_readSack_126 : decode cX6_readSack 126 = .ok (.ifCond .ne 5, 3) := by decide +kernel
theorem dX6_readSack_129 : decode cX6_readSack 129 = .ok (.iconst 0, 1) := by decide +kernel
theorem dX6_readSack_130 : decode cX6_readSack 130 = .ok (.ireturn, 1) := by decide +kernel
theorem dX6_readSack_131 : decode cX6_readSack 131 = .ok (.aload_n 1, 1) := by decide +kernel
theorem dX6_readSack_132 : decode cX6_readSack 132 = .ok (.aload_n 0, 1) := by decide +kernel
theorem dX6_readSack_133 : decode cX6_readSack 133 = .ok (.getfield 9, 3) := by decide +kernel
theorem dX6_readSack_136 : decode cX6_readSack 136 = .ok (.getfield 109, 3) := by decide +kernel
theorem dX6_readSack_139 : decode cX6_readSack 139 = .ok (.putfield 145, 3) := by decide +kernel
theorem dX6_readSack_142 : decode cX6_readSack 142 = .ok (.aload_n 0, 1) := by decide +kernel
theorem dX6_readSack_143 : decode cX6_readSack 143 = .ok (.getfield 9, 3) := by decide +kernel
theorem dX6_readSack_146 : decode cX6_readSack 146 = .ok (.ldc 148, 2) := by decide +kernel
theorem dX6_readSack_148 : decode cX6_readSack 148 = .ok (.ldc 150, 2) := by decide +kernel
theorem dX6_readSack_150 : decode cX6_readSack 150 = .ok (.invokevirtual 119, 3) := by decide +kernel
theorem dX6_readSack_153 : decode cX6_readSack 153 = .ok (.ifCond .ne 5, 3) := by decide +kernel
theorem dX6_readSack_156 : decode cX6_readSack 156 = .ok (.iconst 0, 1) := by decide +kernel
theorem dX6_readSack_157 : decode cX6_readSack 157 = .ok (.ireturn, 1) := by decide +kernel
theorem dX6_readSack_158 : decode cX6_readSack 158 = .ok (.aload_n 1, 1) := by decide +kernel
theorem dX6_readSack_159 : decode cX6_readSack 159 = .ok (.aload_n 0, 1) := by decide +kernel
theorem dX6_readSack_160 : decode cX6_readSack 160 = .ok (.getfield 9, 3) := by decide +kernel
theorem dX6_readSack_163 : decode cX6_readSack 163 = .ok (.ldc 148, 2) := by decide +kernel
theorem dX6_readSack_165 : decode cX6_readSack 165 = .ok (.invokevirtual 56, 3) := by decide +kernel
theorem dX6_readSack_168 : decode cX6_readSack 168 = .ok (.putfield 152, 3) := by decide +kernel
theorem dX6_readSack_171 : decode cX6_readSack 171 = .ok (.aload_n 0, 1) := by decide +kernel
theorem dX6_readSack_172 : decode cX6_readSack 172 = .ok (.getfield 15, 3) := by decide +kernel
theorem dX6_readSack_175 : decode cX6_readSack 175 = .ok (.dup, 1) := by decide +kernel
theorem dX6_readSack_176 : decode cX6_readSack 176 = .ok (.getfield 43, 3) := by decide +kernel
theorem dX6_readSack_179 : decode cX6_readSack 179 = .ok (.iconst 1, 1) := by decide +kernel
theorem dX6_readSack_180 : decode cX6_readSack 180 = .ok (.iadd, 1) := by decide +kernel
theorem dX6_readSack_181 : decode cX6_readSack 181 = .ok (.putfield 43, 3) := by decide +kernel
theorem dX6_readSack_184 : decode cX6_readSack 184 = .ok (.aload_n 0, 1) := by decide +kernel
theorem dX6_readSack_185 : decode cX6_readSack 185 = .ok (.getfield 9, 3) := by decide +kernel
theorem dX6_readSack_188 : decode cX6_readSack 188 = .ok (.invokevirtual 126, 3) := by decide +kernel
theorem dX6_readSack_191 : decode cX6_readSack 191 = .ok (.ireturn, 1) := by decide +kernel
theorem dX6_readShift_0 : decode cX6_readShift 0 = .ok (.aload_n 0, 1) := by decide +kernel
theorem dX6_readShift_1 : decode cX6_readShift 1 = .ok (.getfield 15, 3) := by decide +kernel
theorem dX6_readShift_4 : decode cX6_readShift 4 = .ok (.getfield 46, 3) := by decide +kernel
theorem dX6_readShift_7 : decode cX6_readShift 7 = .ok (.bipush 12, 2) := by decide +kernel
theorem dX6_readShift_9 : decode cX6_readShift 9 = .ok (.if_icmp .lt 12, 3) := by decide +kernel
theorem dX6_readShift_12 : decode cX6_readShift 12 = .ok (.aload_n 0, 1) := by decide +kernel
theorem dX6_readShift_13 : decode cX6_readShift 13 = .ok (.getfield 9, 3) := by decide +kernel
theorem dX6_readShift_16 : decode cX6_readShift 16 = .ok (.iconst 5, 1) := by decide +kernel
theorem dX6_readShift_17 : decode cX6_readShift 17 = .ok (.invokevirtual 49, 3) := by decide +kernel
theorem dX6_readShift_20 : decode cX6_readShift 20 = .ok (.ireturn, 1) := by decide +kernel
theorem dX6_readShift_21 : decode cX6_readShift 21 = .ok (.aload_n 0, 1) := by decide +kernel
theorem dX6_readShift_22 : decode cX6_readShift 22 = .ok (.getfield 9, 3) := by decide +kernel
theorem dX6_readShift_25 : decode cX6_readShift 25 = .ok (.invokevirtual 83, 3) := by decide +kernel
theorem dX6_readShift_28 : decode cX6_readShift 28 = .ok (.ifCond .ne 5, 3) := by decide +kernel
theorem dX6_readShift_31 : decode cX6_readShift 31 = .ok (.iconst 0, 1) := by decide +kernel
theorem dX6_readShift_32 : decode cX6_readShift 32 = .ok (.ireturn, 1) := by decide +kernel
theorem dX6_readShift_33 : decode cX6_readShift 33 = .ok (.aload_n 0, 1) := by decide +kernel
theorem dX6_readShift_34 : decode cX6_readShift 34 = .ok (.getfield 15, 3) := by decide +kernel
theorem dX6_readShift_37 : decode cX6_readShift 37 = .ok (.aload_n 0, 1) := by decide +kernel
theorem dX6_readShift_38 : decode cX6_readShift 38 = .ok (.getfield 9, 3) := by decide +kernel
theorem dX6_readShift_41 : decode cX6_readShift 41 = .ok (.invokevirtual 86, 3) := by decide +kernel
theorem dX6_readShift_44 : decode cX6_readShift 44 = .ok (.istore_n 1, 1) := by decide +kernel
theorem dX6_readShift_45 : decode cX6_readShift 45 = .ok (.iload_n 1, 1) := by decide +kernel
theorem dX6_readShift_46 : decode cX6_readShift 46 = .ok (.iconst (-1), 1) := by decide +kernel
theorem dX6_readShift_47 : decode cX6_readShift 47 = .ok (.if_icmp .ne 12, 3) := by decide +kernel
theorem dX6_readShift_50 : decode cX6_readShift 50 = .ok (.aload_n 0, 1) := by decide +kernel
theorem dX6_readShift_51 : decode cX6_readShift 51 = .ok (.getfield 9, 3) := by decide +kernel
theorem dX6_readShift_54 : decode cX6_readShift 54 = .ok (.iconst 4, 1) := by decide +kernel
theorem dX6_readShift_55 : decode cX6_readShift 55 = .ok (.invokevirtual 49, 3) := by decide +kernel
theorem dX6_readShift_58 : decode cX6_readShift 58 = .ok (.ireturn, 1) := by decide +kernel
theorem dX6_readShift_59 : decode cX6_readShift 59 = .ok (.aload_n 0, 1) := by decide +kernel
theorem dX6_readShift_60 : decode cX6_readShift 60 = .ok (.getfield 9, 3) := by decide +kernel
theorem dX6_readShift_63 : decode cX6_readShift 63 = .ok (.iconst 1, 1) := by decide +kernel
theorem dX6_readShift_64 : decode cX6_readShift 64 = .ok (.bipush 24, 2) := by decide +kernel
theorem dX6_readShift_66 : decode cX6_readShift 66 = .ok (.invokevirtual 105, 3) := by decide +kernel
theorem dX6_readShift_69 : decode cX6_readShift 69 = .ok (.ifCond .ne 5, 3) := by decide +kernel
theorem dX6_readShift_72 : decode cX6_readShift 72 = .ok (.iconst 0, 1) := by decide +kernel
theorem dX6_readShift_73 : decode cX6_readShift 73 = .ok (.ireturn, 1) := by decide +kernel
theorem dX6_readShift_74 : decode cX6_readShift 74 = .ok (.aload_n 0, 1) := by decide +kernel
theorem dX6_readShift_75 : decode cX6_readShift 75 = .ok (.getfield 15, 3) := by decide +kernel
theorem dX6_readShift_78 : decode cX6_readShift 78 = .ok (.getfield 154, 3) := by decide +kernel
theorem dX6_readShift_81 : decode cX6_readShift 81 = .ok (.aload_n 0, 1) := by decide +kernel
theorem dX6_readShift_82 : decode cX6_readShift 82 = .ok (.getfield 15, 3) := by decide +kernel
theorem dX6_readShift_85 : decode cX6_readShift 85 = .ok (.getfield 46, 3) := by decide +kernel
theorem dX6_readShift_88 : decode cX6_readShift 88 = .ok (.aaload, 1) := by decide +kernel
theorem dX6_readShift_89 : decode cX6_readShift 89 = .ok (.iload_n 1, 1) := by decide +kernel
theorem dX6_readShift_90 : decode cX6_readShift 90 = .ok (.putfield 158, 3) := by decide +kernel
theorem dX6_readShift_93 : decode cX6_readShift 93 = .ok (.aload_n 0, 1) := by decide +kernel
theorem dX6_readShift_94 : decode cX6_readShift 94 = .ok (.getfield 15, 3) := by decide +kernel
theorem dX6_readShift_97 : decode cX6_readShift 97 = .ok (.getfield 154, 3) := by decide +kernel
theorem dX6_readShift_100 : decode cX6_readShift 100 = .ok (.aload_n 0, 1) := by decide +kernel
theorem dX6_readShift_101 : decode cX6_readShift 101 = .ok (.getfield 15, 3) := by decide +kernel
theorem dX6_readShift_104 : decode cX6_readShift 104 = .ok (.getfield 46, 3) := by decide +kernel
theorem dX6_readShift_107 : decode cX6_readShift 107 = .ok (.aaload, 1) := by decide +kernel
theorem dX6_readShift_108 : decode cX6_readShift 108 = .ok (.aload_n 0, 1) := by decide +kernel
theorem dX6_readShift_109 : decode cX6_readShift 109 = .ok (.getfield 9, 3) := by decide +kernel
theorem dX6_readShift_112 : decode cX6_readShift 112 = .ok (.getfield 109, 3) := by decide +kernel
theorem dX6_readShift_115 : decode cX6_readShift 115 = .ok (.putfield 162, 3) := by decide +kernel
theorem dX6_readShift_118 : decode cX6_readShift 118 = .ok (.aload_n 0, 1) := by decide +kernel
theorem dX6_readShift_119 : decode cX6_readShift 119 = .ok (.getfield 15, 3) := by decide +kernel
theorem dX6_readShift_122 : decode cX6_readShift 122 = .ok (.dup, 1) := by decide +kernel
theorem dX6_readShift_123 : decode cX6_readShift 123 = .ok (.getfield 46, 3) := by decide +kernel
theorem dX6_readShift_126 : decode cX6_readShift 126 = .ok (.iconst 1, 1) := by decide +kernel
theorem dX6_readShift_127 : decode cX6_readShift 127 = .ok (.iadd, 1) := by decide +kernel
theorem dX6_readShift_128 : decode cX6_readShift 128 = .ok (.putfield 46, 3) := by decide +kernel
theorem dX6_readShift_131 : decode cX6_readShift 131 = .ok (.aload_n 0, 1) := by decide +kernel
theorem dX6_readShift_132 : decode cX6_readShift 132 = .ok (.getfield 9, 3) := by decide +kernel
theorem dX6_readShift_135 : decode cX6_readShift 135 = .ok (.invokevirtual 126, 3) := by decide +kernel
theorem dX6_readShift_138 : decode cX6_readShift 138 = .ok (.ireturn, 1) := by decide +kernel
theorem dX6_readMilk_0 : decode cX6_readMilk 0 = .ok (.aload_n 0, 1) := by decide +kernel
theorem dX6_readMilk_1 : decode cX6_readMilk 1 = .ok (.getfield 9, 3) := by decide +kernel
theorem dX6_readMilk_4 : decode cX6_readMilk 4 = .ok (.iconst 0, 1) := by decide +kernel
theorem dX6_readMilk_5 : decode cX6_readMilk 5 = .ok (.bipush 9, 2) := by decide +kernel
theorem dX6_readMilk_7 : decode cX6_readMilk 7 = .ok (.invokevirtual 105, 3) := by decide +kernel
theorem dX6_readMilk_10 : decode cX6_readMilk 10 = .ok (.ifCond .ne 5, 3) := by decide +kernel
theorem dX6_readMilk_13 : decode cX6_readMilk 13 = .ok (.iconst 0, 1) := by decide +kernel
theorem dX6_readMilk_14 : decode cX6_readMilk 14 = .ok (.ireturn, 1) := by decide +kernel
theorem dX6_readMilk_15 : decode cX6_readMilk 15 = .ok (.aload_n 0, 1) := by decide +kernel
theorem dX6_readMilk_16 : decode cX6_readMilk 16 = .ok (.getfield 15, 3) := by decide +kernel
theorem dX6_readMilk_19 : decode cX6_readMilk 19 = .ok (.aload_n 0, 1) := by decide +kernel
theorem dX6_readMilk_20 : decode cX6_readMilk 20 = .ok (.getfield 9, 3) := by decide +kernel
theorem dX6_readMilk_23 : decode cX6_readMilk 23 = .ok (.getfield 109, 3) := by decide +kernel
theorem dX6_readMilk_26 : decode cX6_readMilk 26 = .ok (.putfield 165, 3) := by decide +kernel
theorem dX6_readMilk_29 : decode cX6_readMilk 29 = .ok (.aload_n 0, 1) := by decide +kernel
theorem dX6_readMilk_30 : decode cX6_readMilk 30 = .ok (.getfield 9, 3) := by decide +kernel
theorem dX6_readMilk_33 : decode cX6_readMilk 33 = .ok (.invokevirtual 126, 3) := by decide +kernel
theorem dX6_readMilk_36 : decode cX6_readMilk 36 = .ok (.ireturn, 1) := by decide +kernel
theorem dX6_readHour_0 : decode cX6_readHour 0 = .ok (.aload_n 0, 1) := by decide +kernel
theorem dX6_readHour_1 : decode cX6_readHour 1 = .ok (.getfield 9, 3) := by decide +kernel
theorem dX6_readHour_4 : decode cX6_readHour 4 = .ok (.iconst 0, 1) := by decide +kernel
theorem dX6_readHour_5 : decode cX6_readHour 5 = .ok (.bipush 23, 2) := by decide +kernel
theorem dX6_readHour_7 : decode cX6_readHour 7 = .ok (.invokevirtual 105, 3) := by decide +kernel
theorem dX6_readHour_10 : decode cX6_readHour 10 = .ok (.ifCond .ne 5, 3) := by decide +kernel
theorem dX6_readHour_13 : decode cX6_readHour 13 = .ok (.iconst 0, 1) := by decide +kernel
theorem dX6_readHour_14 : decode cX6_readHour 14 = .ok (.ireturn, 1) := by decide +kernel
theorem dX6_readHour_15 : decode cX6_readHour 15 = .ok (.aload_n 0, 1) := by decide +kernel
theorem dX6_readHour_16 : decode cX6_readHour 16 = .ok (.getfield 15, 3) := by decide +kernel
theorem dX6_readHour_19 : decode cX6_readHour 19 = .ok (.aload_n 0, 1) := by decide +kernel
theorem dX6_readHour_20 : decode cX6_readHour 20 = .ok (.getfield 9, 3) := by decide +kernel
theorem dX6_readHour_23 : decode cX6_readHour 23 = .ok (.getfield 109, 3) := by decide +kernel
theorem dX6_readHour_26 : decode cX6_readHour 26 = .ok (.putfield 167, 3) := by decide +kernel
theorem dX6_readHour_29 : decode cX6_readHour 29 = .ok (.aload_n 0, 1) := by decide +kernel
theorem dX6_readHour_30 : decode cX6_readHour 30 = .ok (.getfield 9, 3) := by decide +kernel
theorem dX6_readHour_33 : decode cX6_readHour 33 = .ok (.invokevirtual 126, 3) := by decide +kernel
theorem dX6_readHour_36 : decode cX6_readHour 36 = .ok (.ireturn, 1) := by decide +kernel
theorem dX7_init_0 : decode cX7_init 0 = .ok (.aload_n 0, 1) := by decide +kernel
theorem dX7_init_1 : decode cX7_init 1 = .ok (.invokespecial 1, 3) := by decide +kernel
theorem dX7_init_4 : decode cX7_init 4 = .ok (.return_, 1) := by decide +kernel
theorem dX7_copyFrom_0 : decode cX7_copyFrom 0 = .ok (.aload_n 0, 1) := by decide +kernel
theorem dX7_copyFrom_1 : decode cX7_copyFrom 1 = .ok (.aload_n 1, 1) := by decide +kernel
theorem dX7_copyFrom_2 : decode cX7_copyFrom 2 = .ok (.getfield 7, 3) := by decide +kernel
theorem dX7_copyFrom_5 : decode cX7_copyFrom 5 = .ok (.putfield 7, 3) := by decide +kernel
theorem dX7_copyFrom_8 : decode cX7_copyFrom 8 = .ok (.aload_n 0, 1) := by decide +kernel
theorem dX7_copyFrom_9 : decode cX7_copyFrom 9 = .ok (.aload_n 1, 1) := by decide +kernel
theorem dX7_copyFrom_10 : decode cX7_copyFrom 10 = .ok (.getfield 13, 3) := by decide +kernel
theorem dX7_copyFrom_13 : decode cX7_copyFrom 13 = .ok (.putfield 13, 3) := by decide +kernel
theorem dX7_copyFrom_16 : decode cX7_copyFrom 16 = .ok (.return_, 1) := by decide +kernel
theorem dX8_init_0 : decode cX8_init 0 = .ok (.aload_n 0, 1) := by decide +kernel
theorem dX8_init_1 : decode cX8_init 1 = .ok (.invokespecial 3, 3) := by decide +kernel
theorem dX8_init_4 : decode cX8_init 4 = .ok (.aload_n 0, 1) := by decide +kernel
theorem dX8_init_5 : decode cX8_init 5 = .ok (.sipush 600, 3) := by decide +kernel
theorem dX8_init_8 : decode cX8_init 8 = .ok (.newarray .byte, 2) := by decide +kernel
theorem dX8_init_10 : decode cX8_init 10 = .ok (.putfield 9, 3) := by decide +kernel
theorem dX8_init_13 : decode cX8_init 13 = .ok (.aload_n 0, 1) := by decide +kernel
theorem dX8_init_14 : decode cX8_init 14 = .ok (.new 15, 3) := by decide +kernel
theorem dX8_init_17 : decode cX8_init 17 = .ok (.dup, 1) := by decide +kernel
theorem dX8_init_18 : decode cX8_init 18 = .ok (.invokespecial 17, 3) := by decide +kernel
theorem dX8_init_21 : decode cX8_init 21 = .ok (.putfield 18, 3) := by decide +kernel
theorem dX8_init_24 : decode cX8_init 24 = .ok (.aload_n 0, 1) := by decide +kernel
theorem dX8_init_25 : decode cX8_init 25 = .ok (.iconst 0, 1) := by decide +kernel
theorem dX8_init_26 : decode cX8_init 26 = .ok (.putfield 22, 3) := by decide +kernel
theorem dX8_init_29 : decode cX8_init 29 = .ok (.aload_n 0, 1) := by decide +kernel
theorem dX8_init_30 : decode cX8_init 30 = .ok (.iconst (-1), 1) := by decide +kernel
theorem dX8_init_31 : decode cX8_init 31 = .ok (.putfield 26, 3) := by decide +kernel
theorem dX8_init_34 : decode cX8_init 34 = .ok (.return_, 1) := by decide +kernel
theorem dX8_appendFour_0 : decode cX8_appendFour 0 = .ok (.aload_n 0, 1) := by decide +kernel
theorem dX8_appendFour_1 : decode cX8_appendFour 1 = .ok (.iload_n 1, 1) := by decide +kernel
theorem dX8_appendFour_2 : decode cX8_appendFour 2 = .ok (.bipush 24, 2) := by decide +kernel
theorem dX8_appendFour_4 : decode cX8_appendFour 4 = .ok (.ishr, 1) := by decide +kernel
theorem dX8_appendFour_5 : decode cX8_appendFour 5 = .ok (.invokevirtual 29, 3) := by decide +kernel
theorem dX8_appendFour_8 : decode cX8_appendFour 8 = .ok (.aload_n 0, 1) := by decide +kernel
theorem dX8_appendFour_9 : decode cX8_appendFour 9 = .ok (.iload_n 1, 1) := by decide +kernel
theorem dX8_appendFour_10 : decode cX8_appendFour 10 = .ok (.bipush 16, 2) := by decide +kernel
theorem dX8_appendFour_12 : decode cX8_appendFour 12 = .ok (.ishr, 1) := by decide +kernel
theorem dX8_appendFour_13 : decode cX8_appendFour 13 = .ok (.invokevirtual 29, 3) := by decide +kernel
theorem dX8_appendFour_16 : decode cX8_appendFour 16 = .ok (.aload_n 0, 1) := by decide +kernel
theorem dX8_appendFour_17 : decode cX8_appendFour 17 = .ok (.iload_n 1, 1) := by decide +kernel
theorem dX8_appendFour_18 : decode cX8_appendFour 18 = .ok (.bipush 8, 2) := by decide +kernel
theorem dX8_appendFour_20 : decode cX8_appendFour 20 = .ok (.ishr, 1) := by decide +kernel
theorem dX8_appendFour_21 : decode cX8_appendFour 21 = .ok (.invokevirtual 29, 3) := by decide +kernel
theorem dX8_appendFour_24 : decode cX8_appendFour 24 = .ok (.aload_n 0, 1) := by decide +kernel
theorem dX8_appendFour_25 : decode cX8_appendFour 25 = .ok (.iload_n 1, 1) := by decide +kernel
theorem dX8_appendFour_26 : decode cX8_appendFour 26 = .ok (.invokevirtual 29, 3) := by decide +kernel
theorem dX8_appendFour_29 : decode cX8_appendFour 29 = .ok (.return_, 1) := by decide +kernel
theorem dX8_appendWords_0 : decode cX8_appendWords 0 = .ok (.iconst 0, 1) := by decide +kernel
theorem dX8_appendWords_1 : decode cX8_appendWords 1 = .ok (.istore_n 2, 1) := by decide +kernel
theorem dX8_appendWords_2 : decode cX8_appendWords 2 = .ok (.iload_n 2, 1) := by decide +kernel
theorem dX8_appendWords_3 : decode cX8_appendWords 3 = .ok (.aload_n 1, 1) := by decide +kernel
theorem dX8_appendWords_4 : decode cX8_appendWords 4 = .ok (.invokevirtual 33, 3) := by decide +kernel
theorem dX8_appendWords_7 : decode cX8_appendWords 7 = .ok (.if_icmp .ge 18, 3) := by decide +kernel
theorem dX8_appendWords_10 : decode cX8_appendWords 10 = .ok (.aload_n 0, 1) := by decide +kernel
theorem dX8_appendWords_11 : decode cX8_appendWords 11 = .ok (.aload_n 1, 1) := by decide +kernel
theorem dX8_appendWords_12 : decode cX8_appendWords 12 = .ok (.iload_n 2, 1) := by decide +kernel
theorem dX8_appendWords_13 : decode cX8_appendWords 13 = .ok (.invokevirtual 39, 3) := by decide +kernel
theorem dX8_appendWords_16 : decode cX8_appendWords 16 = .ok (.invokevirtual 29, 3) := by decide +kernel
theorem dX8_appendWords_19 : decode cX8_appendWords 19 = .ok (.iinc 2 1, 3) := by decide +kernel
theorem dX8_appendWords_22 : decode cX8_appendWords 22 = .ok (.goto (-20), 3) := by decide +kernel
theorem dX8_appendWords_25 : decode cX8_appendWords 25 = .ok (.return_, 1) := by decide +kernel
theorem dX8_append_0 : decode cX8_append 0 = .ok (.aload_n 0, 1) := by decide +kernel
theorem dX8_append_1 : decode cX8_append 1 = .ok (.getfield 43, 3) := by decide +kernel
theorem dX8_append_4 : decode cX8_append 4 = .ok (.aload_n 0, 1) := by decide +kernel
theorem dX8_append_5 : decode cX8_append 5 = .ok (.getfield 9, 3) := by decide +kernel
theorem dX8_append_8 : decode cX8_append 8 = .ok (.arraylength, 1) := by decide +kernel
theorem dX8_append_9 : decode cX8_append 9 = .ok (.if_icmp .ge 24, 3) := by decide +kernel
theorem dX8_append_12 : decode cX8_append 12 = .ok (.aload_n 0, 1) := by decide +kernel
theorem dX8_append_13 : decode cX8_append 13 = .ok (.getfield 9, 3) := by decide +kernel
theorem dX8_append_16 : decode cX8_append 16 = .ok (.aload_n 0, 1) := by decide +kernel
theorem dX8_append_17 : decode cX8_append 17 = .ok (.getfield 43, 3) := by decide +kernel
theorem dX8_append_20 : decode cX8_append 20 = .ok (.iload_n 1, 1) := by decide +kernel
theorem dX8_append_21 : decode cX8_append 21 = .ok (.i2b, 1) := by decide +kernel
theorem dX8_append_22 : decode cX8_append 22 = .ok (.bastore, 1) := by decide +kernel
theorem dX8_append_23 : decode cX8_append 23 = .ok (.aload_n 0, 1) := by decide +kernel
theorem dX8_append_24 : decode cX8_append 24 = .ok (.dup, 1) := by decide +kernel
theorem dX8_append_25 : decode cX8_append 25 = .ok (.getfield 43, 3) := by decide +kernel
theorem dX8_append_28 : decode cX8_append 28 = .ok (.iconst 1, 1) := by decide +kernel
theorem dX8_append_29 : decode cX8_append 29 = .ok (.iadd, 1) := by decide +kernel
theorem dX8_append_30 : decode cX8_append 30 = .ok (.putfield 43, 3) := by decide +kernel
theorem dX8_append_33 : decode cX8_append 33 = .ok (.return_, 1) := by decide +kernel
theorem dX8_begin_0 : decode cX8_begin 0 = .ok (.aload_n 0, 1) := by decide +kernel
theorem dX8_begin_1 : decode cX8_begin 1 = .ok (.iconst 0, 1) := by decide +kernel
theorem dX8_begin_2 : decode cX8_begin 2 = .ok (.putfield 45, 3) := by decide +kernel
theorem dX8_begin_5 : decode cX8_begin 5 = .ok (.aload_n 0, 1) := by decide +kernel
theorem dX8_begin_6 : decode cX8_begin 6 = .ok (.iconst 0, 1) := by decide +kernel
theorem dX8_begin_7 : decode cX8_begin 7 = .ok (.putfield 22, 3) := by decide +kernel
theorem dX8_begin_10 : decode cX8_begin 10 = .ok (.aload_n 0, 1) := by decide +kernel
theorem dX8_begin_11 : decode cX8_begin 11 = .ok (.iconst (-1), 1) := by decide +kernel
theorem dX8_begin_12 : decode cX8_begin 12 = .ok (.putfield 26, 3) := by decide +kernel
theorem dX8_begin_15 : decode cX8_begin 15 = .ok (.return_, 1) := by decide +kernel
theorem dX8_fail_0 : decode cX8_fail 0 = .ok (.aload_n 0, 1) := by decide +kernel
theorem dX8_fail_1 : decode cX8_fail 1 = .ok (.iload_n 1, 1) := by decide +kernel
theorem dX8_fail_2 : decode cX8_fail 2 = .ok (.putfield 22, 3) := by decide +kernel
theorem dX8_fail_5 : decode cX8_fail 5 = .ok (.aload_n 0, 1) := by decide +kernel
theorem dX8_fail_6 : decode cX8_fail 6 = .ok (.aload_n 0, 1) := by decide +kernel
theorem dX8_fail_7 : decode cX8_fail 7 = .ok (.getfield 48, 3) := by decide +kernel
theorem dX8_fail_10 : decode cX8_fail 10 = .ok (.putfield 26, 3) := by decide +kernel
theorem dX8_fail_13 : decode cX8_fail 13 = .ok (.iconst 0, 1) := by decide +kernel
theorem dX8_fail_14 : decode cX8_fail 14 = .ok (.ireturn, 1) := by decide +kernel
theorem dX8_advance_0 : decode cX8_advance 0 = .ok (.aload_n 0, 1) := by decide +kernel
theorem dX8_advance_1 : decode cX8_advance 1 = .ok (.getfield 45, 3) := by decide +kernel
theorem dX8_advance_4 : decode cX8_advance 4 = .ok (.aload_n 0, 1) := by decide +kernel
theorem dX8_advance_5 : decode cX8_advance 5 = .ok (.getfield 43, 3) := by decide +kernel
theorem dX8_advance_8 : decode cX8_advance 8 = .ok (.if_icmp .ge 32, 3) := by decide +kernel
theorem dX8_advance_11 : decode cX8_advance 11 = .ok (.aload_n 0, 1) := by decide +kernel
theorem dX8_advance_12 : decode cX8_advance 12 = .ok (.getfield 9, 3) := by decide +kernel
theorem dX8_advance_15 : decode cX8_advance 15 = .ok (.aload_n 0, 1) := by decide +kernel
theorem dX8_advance_16 : decode cX8_advance 16 = .ok (.getfield 45, 3) := by decide +kernel
theorem dX8_advance_19 : decode cX8_advance 19 = .ok (.baload, 1) := by decide +kernel
theorem dX8_advance_20 : decode cX8_advance 20 = .ok (.invokestatic 51, 3) := by decide +kernel
theorem dX8_advance_23 : decode cX8_advance 23 = .ok (.iconst 4, 1) := by decide +kernel
theorem dX8_advance_24 : decode cX8_advance 24 = .ok (.if_icmp .ne 16, 3) := by decide +kernel
theorem dX8_advance_27 : decode cX8_advance 27 = .ok (.aload_n 0, 1) := by decide +kernel
theorem dX8_advance_28 : decode cX8_advance 28 = .ok (.dup, 1) := by decide +kernel
theorem dX8_advance_29 : decode cX8_advance 29 = .ok (.getfield 45, 3) := by decide +kernel
theorem dX8_advance_32 : decode cX8_advance 32 = .ok (.iconst 1, 1) := by decide +kernel
theorem dX8_advance_33 : decode cX8_advance 33 = .ok (.iadd, 1) := by decide +kernel
theorem dX8_advance_34 : decode cX8_advance 34 = .ok (.putfield 45, 3) := by decide +kernel
theorem dX8_advance_37 : decode cX8_advance 37 = .ok (.goto (-37), 3) := by decide +kernel
theorem dX8_advance_40 : decode cX8_advance 40 = .ok (.aload_n 0, 1) := by decide +kernel
theorem dX8_advance_41 : decode cX8_advance 41 = .ok (.aload_n 0, 1) := by decide +kernel
theorem dX8_advance_42 : decode cX8_advance 42 = .ok (.getfield 45, 3) := by decide +kernel
theorem dX8_advance_45 : decode cX8_advance 45 = .ok (.putfield 48, 3) := by decide +kernel
theorem dX8_advance_48 : decode cX8_advance 48 = .ok (.aload_n 0, 1) := by decide +kernel
theorem dX8_advance_49 : decode cX8_advance 49 = .ok (.getfield 45, 3) := by decide +kernel
theorem dX8_advance_52 : decode cX8_advance 52 = .ok (.aload_n 0, 1) := by decide +kernel
theorem dX8_advance_53 : decode cX8_advance 53 = .ok (.getfield 43, 3) := by decide +kernel
theorem dX8_advance_56 : decode cX8_advance 56 = .ok (.if_icmp .lt 10, 3) := by decide +kernel
theorem dX8_advance_59 : decode cX8_advance 59 = .ok (.aload_n 0, 1) := by decide +kernel
theorem dX8_advance_60 : decode cX8_advance 60 = .ok (.iconst 0, 1) := by decide +kernel
theorem dX8_advance_61 : decode cX8_advance 61 = .ok (.putfield 55, 3) := by decide +kernel
theorem dX8_advance_64 : decode cX8_advance 64 = .ok (.iconst 0, 1) := by decide +kernel
theorem dX8_advance_65 : decode cX8_advance 65 = .ok (.ireturn, 1) := by decide +kernel
theorem dX8_advance_66 : decode cX8_advance 66 = .ok (.aload_n 0, 1) := by decide +kernel
theorem dX8_advance_67 : decode cX8_advance 67 = .ok (.aload_n 0, 1) := by decide +kernel
theorem dX8_advance_68 : decode cX8_advance 68 = .ok (.getfield 9, 3) := by decide +kernel
theorem dX8_advance_71 : decode cX8_advance 71 = .ok (.aload_n 0, 1) := by decide +kernel
theorem dX8_advance_72 : decode cX8_advance 72 = .ok (.getfield 45, 3) := by decide +kernel
theorem dX8_advance_75 : decode cX8_advance 75 = .ok (.baload, 1) := by decide +kernel
theorem dX8_advance_76 : decode cX8_advance 76 = .ok (.invokestatic 51, 3) := by decide +kernel
theorem dX8_advance_79 : decode cX8_advance 79 = .ok (.putfield 55, 3) := by decide +kernel
theorem dX8_advance_82 : decode cX8_advance 82 = .ok (.aload_n 0, 1) := by decide +kernel
theorem dX8_advance_83 : decode cX8_advance 83 = .ok (.dup, 1) := by decide +kernel
theorem dX8_advance_84 : decode cX8_advance 84 = .ok (.getfield 45, 3) := by decide +kernel
theorem dX8_advance_87 : decode cX8_advance 87 = .ok (.iconst 1, 1) := by decide +kernel
theorem dX8_advance_88 : decode cX8_advance 88 = .ok (.iadd, 1) := by decide +kernel
theorem dX8_advance_89 : decode cX8_advance 89 = .ok (.putfield 45, 3) := by decide +kernel
theorem dX8_advance_92 : decode cX8_advance 92 = .ok (.aload_n 0, 1) := by decide +kernel
theorem dX8_advance_93 : decode cX8_advance 93 = .ok (.getfield 55, 3) := by decide +kernel
theorem dX8_advance_96 : decode cX8_advance 96 = .ok (.iconst 1, 1) := by decide +kernel
theorem dX8_advance_97 : decode cX8_advance 97 = .ok (.if_icmp .eq 11, 3) := by decide +kernel
theorem dX8_advance_100 : decode cX8_advance 100 = .ok (.aload_n 0, 1) := by decide +kernel
theorem dX8_advance_101 : decode cX8_advance 101 = .ok (.getfield 55, 3) := by decide +kernel
theorem dX8_advance_104 : decode cX8_advance 104 = .ok (.iconst 2, 1) := by decide +kernel
theorem dX8_advance_105 : decode cX8_advance 105 = .ok (.if_icmp .ne 7, 3) := by decide +kernel
theorem dX8_advance_108 : decode cX8_advance 108 = .ok (.iconst 1, 1) := by decide +kernel
theorem dX8_advance_109 : decode cX8_advance 109 = .ok (.goto 4, 3) := by decide +kernel
theorem dX8_advance_112 : decode cX8_advance 112 = .ok (.iconst 0, 1) := by decide +kernel
theorem dX8_advance_113 : decode cX8_advance 113 = .ok (.istore_n 1, 1) := by decide +kernel
theorem dX8_advance_114 : decode cX8_advance 114 = .ok (.iload_n 1, 1) := by decide +kernel
theorem dX8_advance_115 : decode cX8_advance 115 = .ok (.ifCond .eq 46, 3) := by decide +kernel
theorem dX8_advance_118 : decode cX8_advance 118 = .ok (.aload_n 0, 1) := by decide +kernel
theorem dX8_advance_119 : decode cX8_advance 119 = .ok (.getfield 45, 3) := by decide +kernel
theorem dX8_advance_122 : decode cX8_advance 122 = .ok (.aload_n 0, 1) := by decide +kernel
theorem dX8_advance_123 : decode cX8_advance 123 = .ok (.getfield 43, 3) := by decide +kernel
theorem dX8_advance_126 : decode cX8_advance 126 = .ok (.if_icmp .ge 35, 3) := by decide +kernel
theorem dX8_advance_129 : decode cX8_advance 129 = .ok (.aload_n 0, 1) := by decide +kernel
theorem dX8_advance_130 : decode cX8_advance 130 = .ok (.getfield 9, 3) := by decide +kernel
theorem dX8_advance_133 : decode cX8_advance 133 = .ok (.aload_n 0, 1) := by decide +kernel
theorem dX8_advance_134 : decode cX8_advance 134 = .ok (.getfield 45, 3) := by decide +kernel
theorem dX8_advance_137 : decode cX8_advance 137 = .ok (.baload, 1) := by decide +kernel
theorem dX8_advance_138 : decode cX8_advance 138 = .ok (.invokestatic 51, 3) := by decide +kernel
theorem dX8_advance_141 : decode cX8_advance 141 = .ok (.aload_n 0, 1) := by decide +kernel
theorem dX8_advance_142 : decode cX8_advance 142 = .ok (.getfield 55, 3) := by decide +kernel
theorem dX8_advance_145 : decode cX8_advance 145 = .ok (.if_icmp .ne 16, 3) := by decide +kernel
theorem dX8_advance_148 : decode cX8_advance 148 = .ok (.aload_n 0, 1) := by decide +kernel
theorem dX8_advance_149 : decode cX8_advance 149 = .ok (.dup, 1) := by decide +kernel
theorem dX8_advance_150 : decode cX8_advance 150 = .ok (.getfield 45, 3) := by decide +kernel
theorem dX8_advance_153 : decode cX8_advance 153 = .ok (.iconst 1, 1) := by decide +kernel
theorem dX8_advance_154 : decode cX8_advance 154 = .ok (.iadd, 1) := by decide +kernel
theorem dX8_advance_155 : decode cX8_advance 155 = .ok (.putfield 45, 3) := by decide +kernel
theorem dX8_advance_158 : decode cX8_advance 158 = .ok (.goto (-44), 3) := by decide +kernel
theorem dX8_advance_161 : decode cX8_advance 161 = .ok (.aload_n 0, 1) := by decide +kernel
theorem dX8_advance_162 : decode cX8_advance 162 = .ok (.getfield 55, 3) := by decide +kernel
theorem dX8_advance_165 : decode cX8_advance 165 = .ok (.iconst 1, 1) := by decide +kernel
theorem dX8_advance_166 : decode cX8_advance 166 = .ok (.if_icmp .ne 12, 3) := by decide +kernel
theorem dX8_advance_169 : decode cX8_advance 169 = .ok (.aload_n 0, 1) := by decide +kernel
theorem dX8_advance_170 : decode cX8_advance 170 = .ok (.invokevirtual 58, 3) := by decide +kernel
theorem dX8_advance_173 : decode cX8_advance 173 = .ok (.bipush 8, 2) := by decide +kernel
theorem dX8_advance_175 : decode cX8_advance 175 = .ok (.if_icmp .gt 19, 3) := by decide +kernel
theorem dX8_advance_178 : decode cX8_advance 178 = .ok (.aload_n 0, 1) := by decide +kernel
theorem dX8_advance_179 : decode cX8_advance 179 = .ok (.getfield 55, 3) := by decide +kernel
theorem dX8_advance_182 : decode cX8_advance 182 = .ok (.iconst 2, 1) := by decide +kernel
theorem dX8_advance_183 : decode cX8_advance 183 = .ok (.if_icmp .ne 16, 3) := by decide +kernel
theorem dX8_advance_186 : decode cX8_advance 186 = .ok (.aload_n 0, 1) := by decide +kernel
theorem dX8_advance_187 : decode cX8_advance 187 = .ok (.invokevirtual 58, 3) := by decide +kernel
theorem dX8_advance_190 : decode cX8_advance 190 = .ok (.iconst 4, 1) := by decide +kernel
theorem dX8_advance_191 : decode cX8_advance 191 = .ok (.if_icmp .le 8, 3) := by decide +kernel
theorem dX8_advance_194 : decode cX8_advance 194 = .ok (.aload_n 0, 1) := by decide +kernel
theorem dX8_advance_195 : decode cX8_advance 195 = .ok (.iconst 5, 1) := by decide +kernel
theorem dX8_advance_196 : decode cX8_advance 196 = .ok (.putfield 55, 3) := by decide +kernel
theorem dX8_advance_199 : decode cX8_advance 199 = .ok (.iconst 1, 1) := by decide +kernel
theorem dX8_advance_200 : decode cX8_advance 200 = .ok (.ireturn, 1) := by decide +kernel
theorem dX8_tokenLength_0 : decode cX8_tokenLength 0 = .ok (.aload_n 0, 1) := by decide +kernel
theorem dX8_tokenLength_1 : decode cX8_tokenLength 1 = .ok (.getfield 45, 3) := by decide +kernel
theorem dX8_tokenLength_4 : decode cX8_tokenLength 4 = .ok (.aload_n 0, 1) := by decide +kernel
theorem dX8_tokenLength_5 : decode cX8_tokenLength 5 = .ok (.getfield 48, 3) := by decide +kernel
theorem dX8_tokenLength_8 : decode cX8_tokenLength 8 = .ok (.isub, 1) := by decide +kernel
theorem dX8_tokenLength_9 : decode cX8_tokenLength 9 = .ok (.ireturn, 1) := by decide +kernel
theorem dX8_kindOf_0 : decode cX8_kindOf 0 = .ok (.iload_n 0, 1) := by decide +kernel
theorem dX8_kindOf_1 : decode cX8_kindOf 1 = .ok (.bipush 97, 2) := by decide +kernel
theorem dX8_kindOf_3 : decode cX8_kindOf 3 = .ok (.if_icmp .lt 11, 3) := by decide +kernel
theorem dX8_kindOf_6 : decode cX8_kindOf 6 = .ok (.iload_n 0, 1) := by decide +kernel
theorem dX8_kindOf_7 : decode cX8_kindOf 7 = .ok (.bipush 122, 2) := by decide +kernel
theorem dX8_kindOf_9 : decode cX8_kindOf 9 = .ok (.if_icmp .gt 5, 3) := by decide +kernel
theorem dX8_kindOf_12 : decode cX8_kindOf 12 = .ok (.iconst 1, 1) := by decide +kernel
theorem dX8_kindOf_13 : decode cX8_kindOf 13 = .ok (.ireturn, 1) := by decide +kernel
theorem dX8_kindOf_14 : decode cX8_kindOf 14 = .ok (.iload_n 0, 1) := by decide +kernel
theorem dX8_kindOf_15 : decode cX8_kindOf 15 = .ok (.bipush 48, 2) := by decide +kernel
theorem dX8_kindOf_17 : decode cX8_kindOf 17 = .ok (.if_icmp .lt 11, 3) := by decide +kernel
theorem dX8_kindOf_20 : decode cX8_kindOf 20 = .ok (.iload_n 0, 1) := by decide +kernel
theorem dX8_kindOf_21 : decode cX8_kindOf 21 = .ok (.bipush 57, 2) := by decide +kernel
theorem dX8_kindOf_23 : decode cX8_kindOf 23 = .ok (.if_icmp .gt 5, 3) := by decide +kernel
theorem dX8_kindOf_26 : decode cX8_kindOf 26 = .ok (.iconst 2, 1) := by decide +kernel
theorem dX8_kindOf_27 : decode cX8_kindOf 27 = .ok (.ireturn, 1) := by decide +kernel
theorem dX8_kindOf_28 : decode cX8_kindOf 28 = .ok (.iload_n 0, 1) := by decide +kernel
theorem dX8_kindOf_29 : decode cX8_kindOf 29 = .ok (.bipush 59, 2) := by decide +kernel
theorem dX8_kindOf_31 : decode cX8_kindOf 31 = .ok (.if_icmp .ne 5, 3) := by decide +kernel
theorem dX8_kindOf_34 : decode cX8_kindOf 34 = .ok (.iconst 3, 1) := by decide +kernel
theorem dX8_kindOf_35 : decode cX8_kindOf 35 = .ok (.ireturn, 1) := by decide +kernel
theorem dX8_kindOf_36 : decode cX8_kindOf 36 = .ok (.iload_n 0, 1) := by decide +kernel
theorem dX8_kindOf_37 : decode cX8_kindOf 37 = .ok (.bipush 32, 2) := by decide +kernel
theorem dX8_kindOf_39 : decode cX8_kindOf 39 = .ok (.if_icmp .eq 9, 3) := by decide +kernel
theorem dX8_kindOf_42 : decode cX8_kindOf 42 = .ok (.iload_n 0, 1) := by decide +kernel
theorem dX8_kindOf_43 : decode cX8_kindOf 43 = .ok (.bipush 10, 2) := by decide +kernel
theorem dX8_kindOf_45 : decode cX8_kindOf 45 = .ok (.if_icmp .ne 7, 3) := by decide +kernel
theorem dX8_kindOf_48 : decode cX8_kindOf 48 = .ok (.iconst 4, 1) := by decide +kernel
theorem dX8_kindOf_49 : decode cX8_kindOf 49 = .ok (.goto 4, 3) := by decide +kernel
theorem dX8_kindOf_52 : decode cX8_kindOf 52 = .ok (.iconst 5, 1) := by decide +kernel
theorem dX8_kindOf_53 : decode cX8_kindOf 53 = .ok (.ireturn, 1) := by decide +kernel
theorem dX8_isWord_0 : decode cX8_isWord 0 = .ok (.aload_n 0, 1) := by decide +kernel
theorem dX8_isWord_1 : decode cX8_isWord 1 = .ok (.getfield 55, 3) := by decide +kernel
theorem dX8_isWord_4 : decode cX8_isWord 4 = .ok (.iconst 1, 1) := by decide +kernel
theorem dX8_isWord_5 : decode cX8_isWord 5 = .ok (.if_icmp .ne 14, 3) := by decide +kernel
theorem dX8_isWord_8 : decode cX8_isWord 8 = .ok (.aload_n 0, 1) := by decide +kernel
theorem dX8_isWord_9 : decode cX8_isWord 9 = .ok (.invokevirtual 58, 3) := by decide +kernel
theorem dX8_isWord_12 : decode cX8_isWord 12 = .ok (.aload_n 1, 1) := by decide +kernel
theorem dX8_isWord_13 : decode cX8_isWord 13 = .ok (.invokevirtual 33, 3) := by decide +kernel
theorem dX8_isWord_16 : decode cX8_isWord 16 = .ok (.if_icmp .eq 5, 3) := by decide +kernel
theorem dX8_isWord_19 : decode cX8_isWord 19 = .ok (.iconst 0, 1) := by decide +kernel
theorem dX8_isWord_20 : decode cX8_isWord 20 = .ok (.ireturn, 1) := by decide +kernel
theorem dX8_isWord_21 : decode cX8_isWord 21 = .ok (.iconst 0, 1) := by decide +kernel
theorem dX8_isWord_22 : decode cX8_isWord 22 = .ok (.istore_n 2, 1) := by decide +kernel
theorem dX8_isWord_23 : decode cX8_isWord 23 = .ok (.iload_n 2, 1) := by decide +kernel
theorem dX8_isWord_24 : decode cX8_isWord 24 = .ok (.aload_n 1, 1) := by decide +kernel
theorem dX8_isWord_25 : decode cX8_isWord 25 = .ok (.invokevirtual 33, 3) := by decide +kernel
theorem dX8_isWord_28 : decode cX8_isWord 28 = .ok (.if_icmp .ge 30, 3) := by decide +kernel
theorem dX8_isWord_31 : decode cX8_isWord 31 = .ok (.aload_n 0, 1) := by decide +kernel
theorem dX8_isWord_32 : decode cX8_isWord 32 = .ok (.getfield 9, 3) := by decide +kernel
theorem dX8_isWord_35 : decode cX8_isWord 35 = .ok (.aload_n 0, 1) := by decide +kernel
theorem dX8_isWord_36 : decode cX8_isWord 36 = .ok (.getfield 48, 3) := by decide +kernel
theorem dX8_isWord_39 : decode cX8_isWord 39 = .ok (.iload_n 2, 1) := by decide +kernel
theorem dX8_isWord_40 : decode cX8_isWord 40 = .ok (.iadd, 1) := by decide +kernel
theorem dX8_isWord_41 : decode cX8_isWord 41 = .ok (.baload, 1) := by decide +kernel
theorem dX8_isWord_42 : decode cX8_isWord 42 = .ok (.aload_n 1, 1) := by decide +kernel
theorem dX8_isWord_43 : decode cX8_isWord 43 = .ok (.iload_n 2, 1) := by decide +kernel
theorem dX8_isWord_44 : decode cX8_isWord 44 = .ok (.invokevirtual 39, 3) := by decide +kernel
theorem dX8_isWord_47 : decode cX8_isWord 47 = .ok (.if_icmp .eq 5, 3) := by decide +kernel
theorem dX8_isWord_50 : decode cX8_isWord 50 = .ok (.iconst 0, 1) := by decide +kernel
theorem dX8_isWord_51 : decode cX8_isWord 51 = .ok (.ireturn, 1) := by decide +kernel
theorem dX8_isWord_52 : decode cX8_isWord 52 = .ok (.iinc 2 1, 3) := by decide +kernel
theorem dX8_isWord_55 : decode cX8_isWord 55 = .ok (.goto (-32), 3) := by decide +kernel
theorem dX8_isWord_58 : decode cX8_isWord 58 = .ok (.iconst 1, 1) := by decide +kernel
theorem dX8_isWord_59 : decode cX8_isWord 59 = .ok (.ireturn, 1) := by decide +kernel
theorem dX8_word_0 : decode cX8_word 0 = .ok (.aload_n 0, 1) := by decide +kernel
theorem dX8_word_1 : decode cX8_word 1 = .ok (.getfield 18, 3) := by decide +kernel
theorem dX8_word_4 : decode cX8_word 4 = .ok (.iconst 0, 1) := by decide +kernel
theorem dX8_word_5 : decode cX8_word 5 = .ok (.invokevirtual 61, 3) := by decide +kernel
theorem dX8_word_8 : decode cX8_word 8 = .ok (.aload_n 0, 1) := by decide +kernel
theorem dX8_word_9 : decode cX8_word 9 = .ok (.getfield 48, 3) := by decide +kernel
theorem dX8_word_12 : decode cX8_word 12 = .ok (.istore_n 1, 1) := by decide +kernel
theorem dX8_word_13 : decode cX8_word 13 = .ok (.iload_n 1, 1) := by decide +kernel
theorem dX8_word_14 : decode cX8_word 14 = .ok (.aload_n 0, 1) := by decide +kernel
theorem dX8_word_15 : decode cX8_word 15 = .ok (.getfield 45, 3) := by decide +kernel
theorem dX8_word_18 : decode cX8_word 18 = .ok (.if_icmp .ge 24, 3) := by decide +kernel
theorem dX8_word_21 : decode cX8_word 21 = .ok (.aload_n 0, 1) := by decide +kernel
theorem dX8_word_22 : decode cX8_word 22 = .ok (.getfield 18, 3) := by decide +kernel
theorem dX8_word_25 : decode cX8_word 25 = .ok (.aload_n 0, 1) := by decide +kernel
theorem dX8_word_26 : decode cX8_word 26 = .ok (.getfield 9, 3) := by decide +kernel
theorem dX8_word_29 : decode cX8_word 29 = .ok (.iload_n 1, 1) := by decide +kernel
theorem dX8_word_30 : decode cX8_word 30 = .ok (.baload, 1) := by decide +kernel
theorem dX8_word_31 : decode cX8_word 31 = .ok (.i2c, 1) := by decide +kernel
theorem dX8_word_32 : decode cX8_word 32 = .ok (.invokevirtual 64, 3) := by decide +kernel
theorem dX8_word_35 : decode cX8_word 35 = .ok (.pop, 1) := by decide +kernel
theorem dX8_word_36 : decode cX8_word 36 = .ok (.iinc 1 1, 3) := by decide +kernel
theorem dX8_word_39 : decode cX8_word 39 = .ok (.goto (-26), 3) := by decide +kernel
theorem dX8_word_42 : decode cX8_word 42 = .ok (.aload_n 0, 1) := by decide +kernel
theorem dX8_word_43 : decode cX8_word 43 = .ok (.getfield 18, 3) := by decide +kernel
theorem dX8_word_46 : decode cX8_word 46 = .ok (.invokevirtual 67, 3) := by decide +kernel
theorem dX8_word_49 : decode cX8_word 49 = .ok (.areturn, 1) := by decide +kernel
theorem dX8_takeName_0 : decode cX8_takeName 0 = .ok (.aload_n 0, 1) := by decide +kernel
theorem dX8_takeName_1 : decode cX8_takeName 1 = .ok (.invokevirtual 71, 3) := by decide +kernel
theorem dX8_takeName_4 : decode cX8_takeName 4 = .ok (.pop, 1) := by decide +kernel
theorem dX8_takeName_5 : decode cX8_takeName 5 = .ok (.aload_n 0, 1) := by decide +kernel
theorem dX8_takeName_6 : decode cX8_takeName 6 = .ok (.getfield 55, 3) := by decide +kernel
theorem dX8_takeName_9 : decode cX8_takeName 9 = .ok (.iconst 1, 1) := by decide +kernel
theorem dX8_takeName_10 : decode cX8_takeName 10 = .ok (.if_icmp .ne 12, 3) := by decide +kernel
theorem dX8_takeName_13 : decode cX8_takeName 13 = .ok (.aload_n 0, 1) := by decide +kernel
theorem dX8_takeName_14 : decode cX8_takeName 14 = .ok (.invokevirtual 58, 3) := by decide +kernel
theorem dX8_takeName_17 : decode cX8_takeName 17 = .ok (.bipush 6, 2) := by decide +kernel
theorem dX8_takeName_19 : decode cX8_takeName 19 = .ok (.if_icmp .le 11, 3) := by decide +kernel
theorem dX8_takeName_22 : decode cX8_takeName 22 = .ok (.aload_n 0, 1) := by decide +kernel
theorem dX8_takeName_23 : decode cX8_takeName 23 = .ok (.iconst 1, 1) := by decide +kernel
theorem dX8_takeName_24 : decode cX8_takeName 24 = .ok (.invokevirtual 75, 3) := by decide +kernel
theorem dX8_takeName_27 : decode cX8_takeName 27 = .ok (.ifCond .eq 7, 3) := by decide +kernel
theorem dX8_takeName_30 : decode cX8_takeName 30 = .ok (.iconst 1, 1) := by decide +kernel
theorem dX8_takeName_31 : decode cX8_takeName 31 = .ok (.goto 4, 3) := by decide +kernel
theorem dX8_takeName_34 : decode cX8_takeName 34 = .ok (.iconst 0, 1) := by decide +kernel
theorem dX8_takeName_35 : decode cX8_takeName 35 = .ok (.ireturn, 1) := by decide +kernel
theorem dX8_takeEither_0 : decode cX8_takeEither 0 = .ok (.aload_n 0, 1) := by decide +kernel
theorem dX8_takeEither_1 : decode cX8_takeEither 1 = .ok (.invokevirtual 71, 3) := by decide +kernel
theorem dX8_takeEither_4 : decode cX8_takeEither 4 = .ok (.pop, 1) := by decide +kernel
theorem dX8_takeEither_5 : decode cX8_takeEither 5 = .ok (.aload_n 0, 1) := by decide +kernel
theorem dX8_takeEither_6 : decode cX8_takeEither 6 = .ok (.aload_n 1, 1) := by decide +kernel
theorem dX8_takeEither_7 : decode cX8_takeEither 7 = .ok (.invokevirtual 79, 3) := by decide +kernel
theorem dX8_takeEither_10 : decode cX8_takeEither 10 = .ok (.ifCond .ne 19, 3) := by decide +kernel
theorem dX8_takeEither_13 : decode cX8_takeEither 13 = .ok (.aload_n 0, 1) := by decide +kernel
theorem dX8_takeEither_14 : decode cX8_takeEither 14 = .ok (.aload_n 2, 1) := by decide +kernel
theorem dX8_takeEither_15 : decode cX8_takeEither 15 = .ok (.invokevirtual 79, 3) := by decide +kernel
theorem dX8_takeEither_18 : decode cX8_takeEither 18 = .ok (.ifCond .ne 11, 3) := by decide +kernel
theorem dX8_takeEither_21 : decode cX8_takeEither 21 = .ok (.aload_n 0, 1) := by decide +kernel
theorem dX8_takeEither_22 : decode cX8_takeEither 22 = .ok (.iconst 1, 1) := by decide +kernel
theorem dX8_takeEither_23 : decode cX8_takeEither 23 = .ok (.invokevirtual 75, 3) := by decide +kernel
theorem dX8_takeEither_26 : decode cX8_takeEither 26 = .ok (.ifCond .eq 7, 3) := by decide +kernel
theorem dX8_takeEither_29 : decode cX8_takeEither 29 = .ok (.iconst 1, 1) := by decide +kernel
theorem dX8_takeEither_30 : decode cX8_takeEither 30 = .ok (.goto 4, 3) := by decide +kernel
theorem dX8_takeEither_33 : decode cX8_takeEither 33 = .ok (.iconst 0, 1) := by decide +kernel
theorem dX8_takeEither_34 : decode cX8_takeEither 34 = .ok (.ireturn, 1) := by decide +kernel
theorem dX8_takeSemicolon_0 : decode cX8_takeSemicolon 0 = .ok (.aload_n 0, 1) := by decide +kernel
theorem dX8_takeSemicolon_1 : decode cX8_takeSemicolon 1 = .ok (.invokevirtual 71, 3) := by decide +kernel
theorem dX8_takeSemicolon_4 : decode cX8_takeSemicolon 4 = .ok (.pop, 1) := by decide +kernel
theorem dX8_takeSemicolon_5 : decode cX8_takeSemicolon 5 = .ok (.aload_n 0, 1) := by decide +kernel
theorem dX8_takeSemicolon_6 : decode cX8_takeSemicolon 6 = .ok (.getfield 55, 3) := by decide +kernel
theorem dX8_takeSemicolon_9 : decode cX8_takeSemicolon 9 = .ok (.iconst 3, 1) := by decide +kernel
theorem dX8_takeSemicolon_10 : decode cX8_takeSemicolon 10 = .ok (.if_icmp .eq 11, 3) := by decide +kernel
theorem dX8_takeSemicolon_13 : decode cX8_takeSemicolon 13 = .ok (.aload_n 0, 1) := by decide +kernel
theorem dX8_takeSemicolon_14 : decode cX8_takeSemicolon 14 = .ok (.iconst 1, 1) := by decide +kernel
theorem dX8_takeSemicolon_15 : decode cX8_takeSemicolon 15 = .ok (.invokevirtual 75, 3) := by decide +kernel
theorem dX8_takeSemicolon_18 : decode cX8_takeSemicolon 18 = .ok (.ifCond .eq 7, 3) := by decide +kernel
theorem dX8_takeSemicolon_21 : decode cX8_takeSemicolon 21 = .ok (.iconst 1, 1) := by decide +kernel
theorem dX8_takeSemicolon_22 : decode cX8_takeSemicolon 22 = .ok (.goto 4, 3) := by decide +kernel
theorem dX8_takeSemicolon_25 : decode cX8_takeSemicolon 25 = .ok (.iconst 0, 1) := by decide +kernel
theorem dX8_takeSemicolon_26 : decode cX8_takeSemicolon 26 = .ok (.ireturn, 1) := by decide +kernel
theorem dX8_takeNumber_0 : decode cX8_takeNumber 0 = .ok (.aload_n 0, 1) := by decide +kernel
theorem dX8_takeNumber_1 : decode cX8_takeNumber 1 = .ok (.invokevirtual 71, 3) := by decide +kernel
theorem dX8_takeNumber_4 : decode cX8_takeNumber 4 = .ok (.pop, 1) := by decide +kernel
theorem dX8_takeNumber_5 : decode cX8_takeNumber 5 = .ok (.aload_n 0, 1) := by decide +kernel
theorem dX8_takeNumber_6 : decode cX8_takeNumber 6 = .ok (.getfield 55, 3) := by decide +kernel
theorem dX8_takeNumber_9 : decode cX8_takeNumber 9 = .ok (.iconst 2, 1) := by decide +kernel
theorem dX8_takeNumber_10 : decode cX8_takeNumber 10 = .ok (.if_icmp .eq 9, 3) := by decide +kernel
theorem dX8_takeNumber_13 : decode cX8_takeNumber 13 = .ok (.aload_n 0, 1) := by decide +kernel
theorem dX8_takeNumber_14 : decode cX8_takeNumber 14 = .ok (.iconst 1, 1) := by decide +kernel
theorem dX8_takeNumber_15 : decode cX8_takeNumber 15 = .ok (.invokevirtual 75, 3) := by decide +kernel
theorem dX8_takeNumber_18 : decode cX8_takeNumber 18 = .ok (.ireturn, 1) := by decide +kernel
theorem dX8_takeNumber_19 : decode cX8_takeNumber 19 = .ok (.aload_n 0, 1) := by decide +kernel
theorem dX8_takeNumber_20 : decode cX8_takeNumber 20 = .ok (.iconst 0, 1) := by decide +kernel
theorem dX8_takeNumber_21 : decode cX8_takeNumber 21 = .ok (.putfield 83, 3) := by decide +kernel
theorem dX8_takeNumber_24 : decode cX8_takeNumber 24 = .ok (.aload_n 0, 1) := by decide +kernel
theorem dX8_takeNumber_25 : decode cX8_takeNumber 25 = .ok (.getfield 48, 3) := by decide +kernel
theorem dX8_takeNumber_28 : decode cX8_takeNumber 28 = .ok (.istore_n 3, 1) := by decide +kernel
theorem dX8_takeNumber_29 : decode cX8_takeNumber 29 = .ok (.iload_n 3, 1) := by decide +kernel
theorem dX8_takeNumber_30 : decode cX8_takeNumber 30 = .ok (.aload_n 0, 1) := by decide +kernel
theorem dX8_takeNumber_31 : decode cX8_takeNumber 31 = .ok (.getfield 45, 3) := by decide +kernel
theorem dX8_takeNumber_34 : decode cX8_takeNumber 34 = .ok (.if_icmp .ge 30, 3) := by decide +kernel
theorem dX8_takeNumber_37 : decode cX8_takeNumber 37 = .ok (.aload_n 0, 1) := by decide +kernel
theorem dX8_takeNumber_38 : decode cX8_takeNumber 38 = .ok (.aload_n 0, 1) := by decide +kernel
theorem dX8_takeNumber_39 : decode cX8_takeNumber 39 = .ok (.getfield 83, 3) := by decide +kernel
theorem dX8_takeNumber_42 : decode cX8_takeNumber 42 = .ok (.bipush 10, 2) := by decide +kernel
theorem dX8_takeNumber_44 : decode cX8_takeNumber 44 = .ok (.imul, 1) := by decide +kernel
theorem dX8_takeNumber_45 : decode cX8_takeNumber 45 = .ok (.aload_n 0, 1) := by decide +kernel
theorem dX8_takeNumber_46 : decode cX8_takeNumber 46 = .ok (.getfield 9, 3) := by decide +kernel
theorem dX8_takeNumber_49 : decode cX8_takeNumber 49 = .ok (.iload_n 3, 1) := by decide +kernel
theorem dX8_takeNumber_50 : decode cX8_takeNumber 50 = .ok (.baload, 1) := by decide +kernel
theorem dX8_takeNumber_51 : decode cX8_takeNumber 51 = .ok (.iadd, 1) := by decide +kernel
theorem dX8_takeNumber_52 : decode cX8_takeNumber 52 = .ok (.bipush 48, 2) := by decide +kernel
theorem dX8_takeNumber_54 : decode cX8_takeNumber 54 = .ok (.isub, 1) := by decide +kernel
theorem dX8_takeNumber_55 : decode cX8_takeNumber 55 = .ok (.putfield 83, 3) := by decide +kernel
theorem dX8_takeNumber_58 : decode cX8_takeNumber 58 = .ok (.iinc 3 1, 3) := by decide +kernel
theorem dX8_takeNumber_61 : decode cX8_takeNumber 61 = .ok (.goto (-32), 3) := by decide +kernel
theorem dX8_takeNumber_64 : decode cX8_takeNumber 64 = .ok (.aload_n 0, 1) := by decide +kernel
theorem dX8_takeNumber_65 : decode cX8_takeNumber 65 = .ok (.getfield 83, 3) := by decide +kernel
theorem dX8_takeNumber_68 : decode cX8_takeNumber 68 = .ok (.iload_n 1, 1) := by decide +kernel
theorem dX8_takeNumber_69 : decode cX8_takeNumber 69 = .ok (.if_icmp .lt 11, 3) := by decide +kernel
theorem dX8_takeNumber_72 : decode cX8_takeNumber 72 = .ok (.aload_n 0, 1) := by decide +kernel
theorem dX8_takeNumber_73 : decode cX8_takeNumber 73 = .ok (.getfield 83, 3) := by decide +kernel
theorem dX8_takeNumber_76 : decode cX8_takeNumber 76 = .ok (.iload_n 2, 1) := by decide +kernel
theorem dX8_takeNumber_77 : decode cX8_takeNumber 77 = .ok (.if_icmp .le 11, 3) := by decide +kernel
theorem dX8_takeNumber_80 : decode cX8_takeNumber 80 = .ok (.aload_n 0, 1) := by decide +kernel
theorem dX8_takeNumber_81 : decode cX8_takeNumber 81 = .ok (.iconst 2, 1) := by decide +kernel
theorem dX8_takeNumber_82 : decode cX8_takeNumber 82 = .ok (.invokevirtual 75, 3) := by decide +kernel
theorem dX8_takeNumber_85 : decode cX8_takeNumber 85 = .ok (.ifCond .eq 7, 3) := by decide +kernel
theorem dX8_takeNumber_88 : decode cX8_takeNumber 88 = .ok (.iconst 1, 1) := by decide +kernel
theorem dX8_takeNumber_89 : decode cX8_takeNumber 89 = .ok (.goto 4, 3) := by decide +kernel
theorem dX8_takeNumber_92 : decode cX8_takeNumber 92 = .ok (.iconst 0, 1) := by decide +kernel
theorem dX8_takeNumber_93 : decode cX8_takeNumber 93 = .ok (.ireturn, 1) := by decide +kernel
theorem dX9_init_0 : decode cX9_init 0 = .ok (.aload_n 0, 1) := by decide +kernel
theorem dX9_init_1 : decode cX9_init 1 = .ok (.invokespecial 1, 3) := by decide +kernel
theorem dX9_init_4 : decode cX9_init 4 = .ok (.return_, 1) := by decide +kernel
theorem dX9_copyFrom_0 : decode cX9_copyFrom 0 = .ok (.aload_n 0, 1) := by decide +kernel
theorem dX9_copyFrom_1 : decode cX9_copyFrom 1 = .ok (.aload_n 1, 1) := by decide +kernel
theorem dX9_copyFrom_2 : decode cX9_copyFrom 2 = .ok (.getfield 7, 3) := by decide +kernel
theorem dX9_copyFrom_5 : decode cX9_copyFrom 5 = .ok (.putfield 7, 3) := by decide +kernel
theorem dX9_copyFrom_8 : decode cX9_copyFrom 8 = .ok (.aload_n 0, 1) := by decide +kernel
theorem dX9_copyFrom_9 : decode cX9_copyFrom 9 = .ok (.aload_n 1, 1) := by decide +kernel
theorem dX9_copyFrom_10 : decode cX9_copyFrom 10 = .ok (.getfield 13, 3) := by decide +kernel
theorem dX9_copyFrom_13 : decode cX9_copyFrom 13 = .ok (.putfield 13, 3) := by decide +kernel
theorem dX9_copyFrom_16 : decode cX9_copyFrom 16 = .ok (.aload_n 0, 1) := by decide +kernel
theorem dX9_copyFrom_17 : decode cX9_copyFrom 17 = .ok (.aload_n 1, 1) := by decide +kernel
theorem dX9_copyFrom_18 : decode cX9_copyFrom 18 = .ok (.getfield 16, 3) := by decide +kernel
theorem dX9_copyFrom_21 : decode cX9_copyFrom 21 = .ok (.putfield 16, 3) := by decide +kernel
theorem dX9_copyFrom_24 : decode cX9_copyFrom 24 = .ok (.aload_n 0, 1) := by decide +kernel
theorem dX9_copyFrom_25 : decode cX9_copyFrom 25 = .ok (.aload_n 1, 1) := by decide +kernel
theorem dX9_copyFrom_26 : decode cX9_copyFrom 26 = .ok (.getfield 19, 3) := by decide +kernel
theorem dX9_copyFrom_29 : decode cX9_copyFrom 29 = .ok (.putfield 19, 3) := by decide +kernel
theorem dX9_copyFrom_32 : decode cX9_copyFrom 32 = .ok (.aload_n 0, 1) := by decide +kernel
theorem dX9_copyFrom_33 : decode cX9_copyFrom 33 = .ok (.aload_n 1, 1) := by decide +kernel
theorem dX9_copyFrom_34 : decode cX9_copyFrom 34 = .ok (.getfield 22, 3) := by decide +kernel
theorem dX9_copyFrom_37 : decode cX9_copyFrom 37 = .ok (.putfield 22, 3) := by decide +kernel
theorem dX9_copyFrom_40 : decode cX9_copyFrom 40 = .ok (.aload_n 0, 1) := by decide +kernel
theorem dX9_copyFrom_41 : decode cX9_copyFrom 41 = .ok (.aload_n 1, 1) := by decide +kernel
theorem dX9_copyFrom_42 : decode cX9_copyFrom 42 = .ok (.getfield 25, 3) := by decide +kernel
theorem dX9_copyFrom_45 : decode cX9_copyFrom 45 = .ok (.putfield 25, 3) := by decide +kernel
theorem dX9_copyFrom_48 : decode cX9_copyFrom 48 = .ok (.aload_n 0, 1) := by decide +kernel
theorem dX9_copyFrom_49 : decode cX9_copyFrom 49 = .ok (.aload_n 1, 1) := by decide +kernel
theorem dX9_copyFrom_50 : decode cX9_copyFrom 50 = .ok (.getfield 28, 3) := by decide +kernel
theorem dX9_copyFrom_53 : decode cX9_copyFrom 53 = .ok (.putfield 28, 3) := by decide +kernel
theorem dX9_copyFrom_56 : decode cX9_copyFrom 56 = .ok (.aload_n 0, 1) := by decide +kernel
theorem dX9_copyFrom_57 : decode cX9_copyFrom 57 = .ok (.aload_n 1, 1) := by decide +kernel
theorem dX9_copyFrom_58 : decode cX9_copyFrom 58 = .ok (.getfield 31, 3) := by decide +kernel
theorem dX9_copyFrom_61 : decode cX9_copyFrom 61 = .ok (.putfield 31, 3) := by decide +kernel
theorem dX9_copyFrom_64 : decode cX9_copyFrom 64 = .ok (.return_, 1) := by decide +kernel
theorem dX9_clear_0 : decode cX9_clear 0 = .ok (.aload_n 0, 1) := by decide +kernel
theorem dX9_clear_1 : decode cX9_clear 1 = .ok (.iconst 0, 1) := by decide +kernel
theorem dX9_clear_2 : decode cX9_clear 2 = .ok (.putfield 7, 3) := by decide +kernel
theorem dX9_clear_5 : decode cX9_clear 5 = .ok (.aload_n 0, 1) := by decide +kernel
theorem dX9_clear_6 : decode cX9_clear 6 = .ok (.iconst 0, 1) := by decide +kernel
theorem dX9_clear_7 : decode cX9_clear 7 = .ok (.putfield 13, 3) := by decide +kernel
theorem dX9_clear_10 : decode cX9_clear 10 = .ok (.aload_n 0, 1) := by decide +kernel
theorem dX9_clear_11 : decode cX9_clear 11 = .ok (.iconst 0, 1) := by decide +kernel
theorem dX9_clear_12 : decode cX9_clear 12 = .ok (.putfield 16, 3) := by decide +kernel
theorem dX9_clear_15 : decode cX9_clear 15 = .ok (.aload_n 0, 1) := by decide +kernel
theorem dX9_clear_16 : decode cX9_clear 16 = .ok (.iconst 0, 1) := by decide +kernel
theorem dX9_clear_17 : decode cX9_clear 17 = .ok (.putfield 19, 3) := by decide +kernel
theorem dX9_clear_20 : decode cX9_clear 20 = .ok (.aload_n 0, 1) := by decide +kernel
theorem dX9_clear_21 : decode cX9_clear 21 = .ok (.iconst 0, 1) := by decide +kernel
theorem dX9_clear_22 : decode cX9_clear 22 = .ok (.putfield 22, 3) := by decide +kernel
theorem dX9_clear_25 : decode cX9_clear 25 = .ok (.aload_n 0, 1) := by decide +kernel
theorem dX9_clear_26 : decode cX9_clear 26 = .ok (.iconst 0, 1) := by decide +kernel
theorem dX9_clear_27 : decode cX9_clear 27 = .ok (.putfield 25, 3) := by decide +kernel
theorem dX9_clear_30 : decode cX9_clear 30 = .ok (.aload_n 0, 1) := by decide +kernel
theorem dX9_clear_31 : decode cX9_clear 31 = .ok (.iconst 0, 1) := by decide +kernel
theorem dX9_clear_32 : decode cX9_clear 32 = .ok (.putfield 28, 3) := by decide +kernel
theorem dX9_clear_35 : decode cX9_clear 35 = .ok (.aload_n 0, 1) := by decide +kernel
theorem dX9_clear_36 : decode cX9_clear 36 = .ok (.iconst 0, 1) := by decide +kernel
theorem dX9_clear_37 : decode cX9_clear 37 = .ok (.putfield 31, 3) := by decide +kernel
theorem dX9_clear_40 : decode cX9_clear 40 = .ok (.return_, 1) := by decide +kernel
theorem dX10_init_0 : decode cX10_init 0 = .ok (.aload_n 0, 1) := by decide +kernel
theorem dX10_init_1 : decode cX10_init 1 = .ok (.invokespecial 1, 3) := by decide +kernel
theorem dX10_init_4 : decode cX10_init 4 = .ok (.aload_n 0, 1) := by decide +kernel
theorem dX10_init_5 : decode cX10_init 5 = .ok (.new 7, 3) := by decide +kernel
theorem dX10_init_8 : decode cX10_init 8 = .ok (.dup, 1) := by decide +kernel
theorem dX10_init_9 : decode cX10_init 9 = .ok (.invokespecial 9, 3) := by decide +kernel
theorem dX10_init_12 : decode cX10_init 12 = .ok (.putfield 10, 3) := by decide +kernel
theorem dX10_init_15 : decode cX10_init 15 = .ok (.aload_n 0, 1) := by decide +kernel
theorem dX10_init_16 : decode cX10_init 16 = .ok (.new 16, 3) := by decide +kernel
theorem dX10_init_19 : decode cX10_init 19 = .ok (.dup, 1) := by decide +kernel
theorem dX10_init_20 : decode cX10_init 20 = .ok (.invokespecial 18, 3) := by decide +kernel
theorem dX10_init_23 : decode cX10_init 23 = .ok (.putfield 19, 3) := by decide +kernel
theorem dX10_init_26 : decode cX10_init 26 = .ok (.aload_n 0, 1) := by decide +kernel
theorem dX10_init_27 : decode cX10_init 27 = .ok (.new 23, 3) := by decide +kernel
theorem dX10_init_30 : decode cX10_init 30 = .ok (.dup, 1) := by decide +kernel
theorem dX10_init_31 : decode cX10_init 31 = .ok (.invokespecial 25, 3) := by decide +kernel
theorem dX10_init_34 : decode cX10_init 34 = .ok (.putfield 26, 3) := by decide +kernel
theorem dX10_init_37 : decode cX10_init 37 = .ok (.aload_n 0, 1) := by decide +kernel
theorem dX10_init_38 : decode cX10_init 38 = .ok (.new 23, 3) := by decide +kernel
theorem dX10_init_41 : decode cX10_init 41 = .ok (.dup, 1) := by decide +kernel
theorem dX10_init_42 : decode cX10_init 42 = .ok (.invokespecial 25, 3) := by decide +kernel
theorem dX10_init_45 : decode cX10_init 45 = .ok (.putfield 30, 3) := by decide +kernel
theorem dX10_init_48 : decode cX10_init 48 = .ok (.aload_n 0, 1) := by decide +kernel
theorem dX10_init_49 : decode cX10_init 49 = .ok (.new 23, 3) := by decide +kernel
theorem dX10_init_52 : decode cX10_init 52 = .ok (.dup, 1) := by decide +kernel
theorem dX10_init_53 : decode cX10_init 53 = .ok (.invokespecial 25, 3) := by decide +kernel
theorem dX10_init_56 : decode cX10_init 56 = .ok (.putfield 33, 3) := by decide +kernel
theorem dX10_init_59 : decode cX10_init 59 = .ok (.aload_n 0, 1) := by decide +kernel
theorem dX10_init_60 : decode cX10_init 60 = .ok (.new 23, 3) := by decide +kernel
theorem dX10_init_63 : decode cX10_init 63 = .ok (.dup, 1) := by decide +kernel
theorem dX10_init_64 : decode cX10_init 64 = .ok (.invokespecial 25, 3) := by decide +kernel
theorem dX10_init_67 : decode cX10_init 67 = .ok (.putfield 36, 3) := by decide +kernel
theorem dX10_init_70 : decode cX10_init 70 = .ok (.aload_n 0, 1) := by decide +kernel
theorem dX10_init_71 : decode cX10_init 71 = .ok (.bipush 8, 2) := by decide +kernel
theorem dX10_init_73 : decode cX10_init 73 = .ok (.anewarray 23, 3) := by decide +kernel
theorem dX10_init_76 : decode cX10_init 76 = .ok (.putfield 39, 3) := by decide +kernel
theorem dX10_init_79 : decode cX10_init 79 = .ok (.aload_n 0, 1) := by decide +kernel
theorem dX10_init_80 : decode cX10_init 80 = .ok (.new 43, 3) := by decide +kernel
theorem dX10_init_83 : decode cX10_init 83 = .ok (.dup, 1) := by decide +kernel
theorem dX10_init_84 : decode cX10_init 84 = .ok (.aload_n 0, 1) := by decide +kernel
theorem dX10_init_85 : decode cX10_init 85 = .ok (.getfield 10, 3) := by decide +kernel
theorem dX10_init_88 : decode cX10_init 88 = .ok (.aload_n 0, 1) := by decide +kernel
theorem dX10_init_89 : decode cX10_init 89 = .ok (.getfield 30, 3) := by decide +kernel
theorem dX10_init_92 : decode cX10_init 92 = .ok (.invokespecial 45, 3) := by decide +kernel
theorem dX10_init_95 : decode cX10_init 95 = .ok (.putfield 48, 3) := by decide +kernel
theorem dX10_init_98 : decode cX10_init 98 = .ok (.aload_n 0, 1) := by decide +kernel
theorem dX10_init_99 : decode cX10_init 99 = .ok (.new 52, 3) := by decide +kernel
theorem dX10_init_102 : decode cX10_init 102 = .ok (.dup, 1) := by decide +kernel
theorem dX10_init_103 : decode cX10_init 103 = .ok (.aload_n 0, 1) := by decide +kernel
theorem dX10_init_104 : decode cX10_init 104 = .ok (.getfield 10, 3) := by decide +kernel
theorem dX10_init_107 : decode cX10_init 107 = .ok (.aload_n 0, 1) := by decide +kernel
theorem dX10_init_108 : decode cX10_init 108 = .ok (.getfield 26, 3) := by decide +kernel
theorem dX10_init_111 : decode cX10_init 111 = .ok (.invokespecial 54, 3) := by decide +kernel
theorem dX10_init_114 : decode cX10_init 114 = .ok (.putfield 55, 3) := by decide +kernel
theorem dX10_init_117 : decode cX10_init 117 = .ok (.iconst 0, 1) := by decide +kernel
theorem dX10_init_118 : decode cX10_init 118 = .ok (.istore_n 1, 1) := by decide +kernel
theorem dX10_init_119 : decode cX10_init 119 = .ok (.iload_n 1, 1) := by decide +kernel
theorem dX10_init_120 : decode cX10_init 120 = .ok (.aload_n 0, 1) := by decide +kernel
theorem dX10_init_121 : decode cX10_init 121 = .ok (.getfield 39, 3) := by decide +kernel
theorem dX10_init_124 : decode cX10_init 124 = .ok (.arraylength, 1) := by decide +kernel
theorem dX10_init_125 : decode cX10_init 125 = .ok (.if_icmp .ge 22, 3) := by decide +kernel
theorem dX10_init_128 : decode cX10_init 128 = .ok (.aload_n 0, 1) := by decide +kernel
theorem dX10_init_129 : decode cX10_init 129 = .ok (.getfield 39, 3) := by decide +kernel
theorem dX10_init_132 : decode cX10_init 132 = .ok (.iload_n 1, 1) := by decide +kernel
theorem dX10_init_133 : decode cX10_init 133 = .ok (.new 23, 3) := by decide +kernel
theorem dX10_init_136 : decode cX10_init 136 = .ok (.dup, 1) := by decide +kernel
theorem dX10_init_137 : decode cX10_init 137 = .ok (.invokespecial 25, 3) := by decide +kernel
theorem dX10_init_140 : decode cX10_init 140 = .ok (.aastore, 1) := by decide +kernel
theorem dX10_init_141 : decode cX10_init 141 = .ok (.iinc 1 1, 3) := by decide +kernel
theorem dX10_init_144 : decode cX10_init 144 = .ok (.goto (-25), 3) := by decide +kernel
theorem dX10_init_147 : decode cX10_init 147 = .ok (.aload_n 0, 1) := by decide +kernel
theorem dX10_init_148 : decode cX10_init 148 = .ok (.getfield 10, 3) := by decide +kernel
theorem dX10_init_151 : decode cX10_init 151 = .ok (.ldc 59, 2) := by decide +kernel
theorem dX10_init_153 : decode cX10_init 153 = .ok (.invokevirtual 61, 3) := by decide +kernel
theorem dX10_init_156 : decode cX10_init 156 = .ok (.aload_n 0, 1) := by decide +kernel
theorem dX10_init_157 : decode cX10_init 157 = .ok (.getfield 48, 3) := by decide +kernel
theorem dX10_init_160 : decode cX10_init 160 = .ok (.invokevirtual 65, 3) := by decide +kernel
theorem dX10_init_163 : decode cX10_init 163 = .ok (.pop, 1) := by decide +kernel
theorem dX10_init_164 : decode cX10_init 164 = .ok (.aload_n 0, 1) := by decide +kernel
theorem dX10_init_165 : decode cX10_init 165 = .ok (.getfield 10, 3) := by decide +kernel
theorem dX10_init_168 : decode cX10_init 168 = .ok (.iconst 0, 1) := by decide +kernel
theorem dX10_init_169 : decode cX10_init 169 = .ok (.putfield 69, 3) := by decide +kernel
theorem dX10_init_172 : decode cX10_init 172 = .ok (.aload_n 0, 1) := by decide +kernel
theorem dX10_init_173 : decode cX10_init 173 = .ok (.getfield 26, 3) := by decide +kernel
theorem dX10_init_176 : decode cX10_init 176 = .ok (.aload_n 0, 1) := by decide +kernel
theorem dX10_init_177 : decode cX10_init 177 = .ok (.getfield 30, 3) := by decide +kernel
theorem dX10_init_180 : decode cX10_init 180 = .ok (.invokevirtual 73, 3) := by decide +kernel
theorem dX10_init_183 : decode cX10_init 183 = .ok (.return_, 1) := by decide +kernel
theorem dX10_appendInput_0 : decode cX10_appendInput 0 = .ok (.aload_n 0, 1) := by decide +kernel
theorem dX10_appendInput_1 : decode cX10_appendInput 1 = .ok (.getfield 10, 3) := by decide +kernel
theorem dX10_appendInput_4 : decode cX10_appendInput 4 = .ok (.getfield 69, 3) := by decide +kernel
theorem dX10_appendInput_7 : decode cX10_appendInput 7 = .ok (.bipush 20, 2) := by decide +kernel
theorem dX10_appendInput_9 : decode cX10_appendInput 9 = .ok (.iadd, 1) := by decide +kernel
theorem dX10_appendInput_10 : decode cX10_appendInput 10 = .ok (.sipush 600, 3) := by decide +kernel
theorem dX10_appendInput_13 : decode cX10_appendInput 13 = .ok (.if_icmp .le 5, 3) := by decide +kernel
theorem dX10_appendInput_16 : decode cX10_appendInput 16 = .ok (.iconst (-1), 1) := by decide +kernel
theorem dX10_appendInput_17 : decode cX10_appendInput 17 = .ok (.ireturn, 1) := by decide +kernel
theorem dX10_appendInput_18 : decode cX10_appendInput 18 = .ok (.aload_n 0, 1) := by decide +kernel
theorem dX10_appendInput_19 : decode cX10_appendInput 19 = .ok (.getfield 10, 3) := by decide +kernel
theorem dX10_appendInput_22 : decode cX10_appendInput 22 = .ok (.iload_n 1, 1) := by decide +kernel
theorem dX10_appendInput_23 : decode cX10_appendInput 23 = .ok (.invokevirtual 77, 3) := by decide +kernel
theorem dX10_appendInput_26 : decode cX10_appendInput 26 = .ok (.aload_n 0, 1) := by decide +kernel
theorem dX10_appendInput_27 : decode cX10_appendInput 27 = .ok (.getfield 10, 3) := by decide +kernel
theorem dX10_appendInput_30 : decode cX10_appendInput 30 = .ok (.iload_n 2, 1) := by decide +kernel
theorem dX10_appendInput_31 : decode cX10_appendInput 31 = .ok (.invokevirtual 77, 3) := by decide +kernel
theorem dX10_appendInput_34 : decode cX10_appendInput 34 = .ok (.aload_n 0, 1) := by decide +kernel
theorem dX10_appendInput_35 : decode cX10_appendInput 35 = .ok (.getfield 10, 3) := by decide +kernel
theorem dX10_appendInput_38 : decode cX10_appendInput 38 = .ok (.iload_n 3, 1) := by decide +kernel
theorem dX10_appendInput_39 : decode cX10_appendInput 39 = .ok (.invokevirtual 77, 3) := by decide +kernel
theorem dX10_appendInput_42 : decode cX10_appendInput 42 = .ok (.aload_n 0, 1) := by decide +kernel
theorem dX10_appendInput_43 : decode cX10_appendInput 43 = .ok (.getfield 10, 3) := by decide +kernel
theorem dX10_appendInput_46 : decode cX10_appendInput 46 = .ok (.iload 4, 2) := by decide +kernel
theorem dX10_appendInput_48 : decode cX10_appendInput 48 = .ok (.invokevirtual 77, 3) := by decide +kernel
theorem dX10_appendInput_51 : decode cX10_appendInput 51 = .ok (.aload_n 0, 1) := by decide +kernel
theorem dX10_appendInput_52 : decode cX10_appendInput 52 = .ok (.getfield 10, 3) := by decide +kernel
theorem dX10_appendInput_55 : decode cX10_appendInput 55 = .ok (.iload 5, 2) := by decide +kernel
theorem dX10_appendInput_57 : decode cX10_appendInput 57 = .ok (.invokevirtual 77, 3) := by decide +kernel
theorem dX10_appendInput_60 : decode cX10_appendInput 60 = .ok (.aload_n 0, 1) := by decide +kernel
theorem dX10_appendInput_61 : decode cX10_appendInput 61 = .ok (.getfield 10, 3) := by decide +kernel
theorem dX10_appendInput_64 : decode cX10_appendInput 64 = .ok (.getfield 69, 3) := by decide +kernel
theorem dX10_appendInput_67 : decode cX10_appendInput 67 = .ok (.ireturn, 1) := by decide +kernel
theorem dX10_truncateInput_0 : decode cX10_truncateInput 0 = .ok (.iload_n 1, 1) := by decide +kernel
theorem dX10_truncateInput_1 : decode cX10_truncateInput 1 = .ok (.ifCond .lt 14, 3) := by decide +kernel
theorem dX10_truncateInput_4 : decode cX10_truncateInput 4 = .ok (.iload_n 1, 1) := by decide +kernel
theorem dX10_truncateInput_5 : decode cX10_truncateInput 5 = .ok (.aload_n 0, 1) := by decide +kernel
theorem dX10_truncateInput_6 : decode cX10_truncateInput 6 = .ok (.getfield 10, 3) := by decide +kernel
theorem dX10_truncateInput_9 : decode cX10_truncateInput 9 = .ok (.getfield 69, 3) := by decide +kernel
theorem dX10_truncateInput_12 : decode cX10_truncateInput 12 = .ok (.if_icmp .le 5, 3) := by decide +kernel
theorem dX10_truncateInput_15 : decode cX10_truncateInput 15 = .ok (.iconst 0, 1) := by decide +kernel
theorem dX10_truncateInput_16 : decode cX10_truncateInput 16 = .ok (.ireturn, 1) := by decide +kernel
theorem dX10_truncateInput_17 : decode cX10_truncateInput 17 = .ok (.aload_n 0, 1) := by decide +kernel
theorem dX10_truncateInput_18 : decode cX10_truncateInput 18 = .ok (.getfield 10, 3) := by decide +kernel
theorem dX10_truncateInput_21 : decode cX10_truncateInput 21 = .ok (.iload_n 1, 1) := by decide +kernel
theorem dX10_truncateInput_22 : decode cX10_truncateInput 22 = .ok (.putfield 69, 3) := by decide +kernel
theorem dX10_truncateInput_25 : decode cX10_truncateInput 25 = .ok (.iconst 1, 1) := by decide +kernel
theorem dX10_truncateInput_26 : decode cX10_truncateInput 26 = .ok (.ireturn, 1) := by decide +kernel
theorem dX10_loadGranary_0 : decode cX10_loadGranary 0 = .ok (.aload_n 0, 1) := by decide +kernel
theorem dX10_loadGranary_1 : decode cX10_loadGranary 1 = .ok (.getfield 48, 3) := by decide +kernel
theorem dX10_loadGranary_4 : decode cX10_loadGranary 4 = .ok (.invokevirtual 65, 3) := by decide +kernel
theorem dX10_loadGranary_7 : decode cX10_loadGranary 7 = .ok (.istore_n 1, 1) := by decide +kernel
theorem dX10_loadGranary_8 : decode cX10_loadGranary 8 = .ok (.aload_n 0, 1) := by decide +kernel
theorem dX10_loadGranary_9 : decode cX10_loadGranary 9 = .ok (.getfield 10, 3) := by decide +kernel
theorem dX10_loadGranary_12 : decode cX10_loadGranary 12 = .ok (.iconst 0, 1) := by decide +kernel
theorem dX10_loadGranary_13 : decode cX10_loadGranary 13 = .ok (.putfield 69, 3) := by decide +kernel
theorem dX10_loadGranary_16 : decode cX10_loadGranary 16 = .ok (.iload_n 1, 1) := by decide +kernel
theorem dX10_loadGranary_17 : decode cX10_loadGranary 17 = .ok (.ifCond .ne 5, 3) := by decide +kernel
theorem dX10_loadGranary_20 : decode cX10_loadGranary 20 = .ok (.iconst (-1), 1) := by decide +kernel
theorem dX10_loadGranary_21 : decode cX10_loadGranary 21 = .ok (.ireturn, 1) := by decide +kernel
theorem dX10_loadGranary_22 : decode cX10_loadGranary 22 = .ok (.aload_n 0, 1) := by decide +kernel
theorem dX10_loadGranary_23 : decode cX10_loadGranary 23 = .ok (.getfield 26, 3) := by decide +kernel
theorem dX10_loadGranary_26 : decode cX10_loadGranary 26 = .ok (.aload_n 0, 1) := by decide +kernel
theorem dX10_loadGranary_27 : decode cX10_loadGranary 27 = .ok (.getfield 30, 3) := by decide +kernel
theorem dX10_loadGranary_30 : decode cX10_loadGranary 30 = .ok (.invokevirtual 73, 3) := by decide +kernel
theorem dX10_loadGranary_33 : decode cX10_loadGranary 33 = .ok (.aload_n 0, 1) := by decide +kernel
theorem dX10_loadGranary_34 : decode cX10_loadGranary 34 = .ok (.iconst 0, 1) := by decide +kernel
theorem dX10_loadGranary_35 : decode cX10_loadGranary 35 = .ok (.putfield 81, 3) := by decide +kernel
theorem dX10_loadGranary_38 : decode cX10_loadGranary 38 = .ok (.aload_n 0, 1) := by decide +kernel
theorem dX10_loadGranary_39 : decode cX10_loadGranary 39 = .ok (.iconst 0, 1) := by decide +kernel
theorem dX10_loadGranary_40 : decode cX10_loadGranary 40 = .ok (.putfield 84, 3) := by decide +kernel
theorem dX10_loadGranary_43 : decode cX10_loadGranary 43 = .ok (.aload_n 0, 1) := by decide +kernel
theorem dX10_loadGranary_44 : decode cX10_loadGranary 44 = .ok (.getfield 26, 3) := by decide +kernel
theorem dX10_loadGranary_47 : decode cX10_loadGranary 47 = .ok (.getfield 88, 3) := by decide +kernel
theorem dX10_loadGranary_50 : decode cX10_loadGranary 50 = .ok (.ireturn, 1) := by decide +kernel
theorem dX10_runScript_0 : decode cX10_runScript 0 = .ok (.aload_n 0, 1) := by decide +kernel
theorem dX10_runScript_1 : decode cX10_runScript 1 = .ok (.getfield 55, 3) := by decide +kernel
theorem dX10_runScript_4 : decode cX10_runScript 4 = .ok (.invokevirtual 91, 3) := by decide +kernel
theorem dX10_runScript_7 : decode cX10_runScript 7 = .ok (.istore_n 1, 1) := by decide +kernel
theorem dX10_runScript_8 : decode cX10_runScript 8 = .ok (.aload_n 0, 1) := by decide +kernel
theorem dX10_runScript_9 : decode cX10_runScript 9 = .ok (.getfield 10, 3) := by decide +kernel
theorem dX10_runScript_12 : decode cX10_runScript 12 = .ok (.iconst 0, 1) := by decide +kernel
theorem dX10_runScript_13 : decode cX10_runScript 13 = .ok (.putfield 69, 3) := by decide +kernel
theorem dX10_runScript_16 : decode cX10_runScript 16 = .ok (.iload_n 1, 1) := by decide +kernel
theorem dX10_runScript_17 : decode cX10_runScript 17 = .ok (.ifCond .ne 5, 3) := by decide +kernel
theorem dX10_runScript_20 : decode cX10_runScript 20 = .ok (.iconst (-1), 1) := by decide +kernel
theorem dX10_runScript_21 : decode cX10_runScript 21 = .ok (.ireturn, 1) := by decide +kernel
theorem dX10_runScript_22 : decode cX10_runScript 22 = .ok (.aload_n 0, 1) := by decide +kernel
theorem dX10_runScript_23 : decode cX10_runScript 23 = .ok (.invokevirtual 92, 3) := by decide +kernel
theorem dX10_runScript_26 : decode cX10_runScript 26 = .ok (.aload_n 0, 1) := by decide +kernel
theorem dX10_runScript_27 : decode cX10_runScript 27 = .ok (.getfield 55, 3) := by decide +kernel
theorem dX10_runScript_30 : decode cX10_runScript 30 = .ok (.invokevirtual 95, 3) := by decide +kernel
theorem dX10_runScript_33 : decode cX10_runScript 33 = .ok (.ireturn, 1) := by decide +kernel
theorem dX10_errorCode_0 : decode cX10_errorCode 0 = .ok (.aload_n 0, 1) := by decide +kernel
theorem dX10_errorCode_1 : decode cX10_errorCode 1 = .ok (.getfield 10, 3) := by decide +kernel
theorem dX10_errorCode_4 : decode cX10_errorCode 4 = .ok (.getfield 99, 3) := by decide +kernel
theorem dX10_errorCode_7 : decode cX10_errorCode 7 = .ok (.ireturn, 1) := by decide +kernel
theorem dX10_errorOffset_0 : decode cX10_errorOffset 0 = .ok (.aload_n 0, 1) := by decide +kernel
theorem dX10_errorOffset_1 : decode cX10_errorOffset 1 = .ok (.getfield 10, 3) := by decide +kernel
theorem dX10_errorOffset_4 : decode cX10_errorOffset 4 = .ok (.getfield 102, 3) := by decide +kernel
theorem dX10_errorOffset_7 : decode cX10_errorOffset 7 = .ok (.ireturn, 1) := by decide +kernel
theorem dX10_clock_0 : decode cX10_clock 0 = .ok (.aload_n 0, 1) := by decide +kernel
theorem dX10_clock_1 : decode cX10_clock 1 = .ok (.getfield 26, 3) := by decide +kernel
theorem dX10_clock_4 : decode cX10_clock 4 = .ok (.getfield 105, 3) := by decide +kernel
theorem dX10_clock_7 : decode cX10_clock 7 = .ok (.ireturn, 1) := by decide +kernel
theorem dX10_hourOfDay_0 : decode cX10_hourOfDay 0 = .ok (.aload_n 0, 1) := by decide +kernel
theorem dX10_hourOfDay_1 : decode cX10_hourOfDay 1 = .ok (.getfield 26, 3) := by decide +kernel
theorem dX10_hourOfDay_4 : decode cX10_hourOfDay 4 = .ok (.getfield 105, 3) := by decide +kernel
theorem dX10_hourOfDay_7 : decode cX10_hourOfDay 7 = .ok (.bipush 24, 2) := by decide +kernel
theorem dX10_hourOfDay_9 : decode cX10_hourOfDay 9 = .ok (.irem, 1) := by decide +kernel
theorem dX10_hourOfDay_10 : decode cX10_hourOfDay 10 = .ok (.ireturn, 1) := by decide +kernel
theorem dX10_catCount_0 : decode cX10_catCount 0 = .ok (.aload_n 0, 1) := by decide +kernel
theorem dX10_catCount_1 : decode cX10_catCount 1 = .ok (.getfield 26, 3) := by decide +kernel
theorem dX10_catCount_4 : decode cX10_catCount 4 = .ok (.getfield 88, 3) := by decide +kernel
theorem dX10_catCount_7 : decode cX10_catCount 7 = .ok (.ireturn, 1) := by decide +kernel
theorem dX10_sackCount_0 : decode cX10_sackCount 0 = .ok (.aload_n 0, 1) := by decide +kernel
theorem dX10_sackCount_1 : decode cX10_sackCount 1 = .ok (.getfield 26, 3) := by decide +kernel
theorem dX10_sackCount_4 : decode cX10_sackCount 4 = .ok (.getfield 108, 3) := by decide +kernel
theorem dX10_sackCount_7 : decode cX10_sackCount 7 = .ok (.ireturn, 1) := by decide +kernel
theorem dX10_shiftCount_0 : decode cX10_shiftCount 0 = .ok (.aload_n 0, 1) := by decide +kernel
theorem dX10_shiftCount_1 : decode cX10_shiftCount 1 = .ok (.getfield 26, 3) := by decide +kernel
theorem dX10_shiftCount_4 : decode cX10_shiftCount 4 = .ok (.getfield 111, 3) := by decide +kernel
theorem dX10_shiftCount_7 : decode cX10_shiftCount 7 = .ok (.ireturn, 1) := by decide +kernel
theorem dX10_catNameByte_0 : decode cX10_catNameByte 0 = .ok (.aload_n 0, 1) := by decide +kernel
theorem dX10_catNameByte_1 : decode cX10_catNameByte 1 = .ok (.iload_n 1, 1) := by decide +kernel
theorem dX10_catNameByte_2 : decode cX10_catNameByte 2 = .ok (.invokevirtual 114, 3) := by decide +kernel
theorem dX10_catNameByte_5 : decode cX10_catNameByte 5 = .ok (.getfield 118, 3) := by decide +kernel
theorem dX10_catNameByte_8 : decode cX10_catNameByte 8 = .ok (.iload_n 2, 1) := by decide +kernel
theorem dX10_catNameByte_9 : decode cX10_catNameByte 9 = .ok (.invokestatic 124, 3) := by decide +kernel
theorem dX10_catNameByte_12 : decode cX10_catNameByte 12 = .ok (.ireturn, 1) := by decide +kernel
theorem dX10_sackNameByte_0 : decode cX10_sackNameByte 0 = .ok (.aload_n 0, 1) := by decide +kernel
theorem dX10_sackNameByte_1 : decode cX10_sackNameByte 1 = .ok (.iload_n 1, 1) := by decide +kernel
theorem dX10_sackNameByte_2 : decode cX10_sackNameByte 2 = .ok (.invokevirtual 128, 3) := by decide +kernel
theorem dX10_sackNameByte_5 : decode cX10_sackNameByte 5 = .ok (.getfield 132, 3) := by decide +kernel
theorem dX10_sackNameByte_8 : decode cX10_sackNameByte 8 = .ok (.iload_n 2, 1) := by decide +kernel
theorem dX10_sackNameByte_9 : decode cX10_sackNameByte 9 = .ok (.invokestatic 124, 3) := by decide +kernel
theorem dX10_sackNameByte_12 : decode cX10_sackNameByte 12 = .ok (.ireturn, 1) := by decide +kernel
theorem dX10_speedOf_0 : decode cX10_speedOf 0 = .ok (.aload_n 0, 1) := by decide +kernel
theorem dX10_speedOf_1 : decode cX10_speedOf 1 = .ok (.iload_n 1, 1) := by decide +kernel
theorem dX10_speedOf_2 : decode cX10_speedOf 2 = .ok (.invokevirtual 114, 3) := by decide +kernel
theorem dX10_speedOf_5 : decode cX10_speedOf 5 = .ok (.getfield 135, 3) := by decide +kernel
theorem dX10_speedOf_8 : decode cX10_speedOf 8 = .ok (.ireturn, 1) := by decide +kernel
theorem dX10_isLeftPawed_0 : decode cX10_isLeftPawed 0 = .ok (.aload_n 0, 1) := by decide +kernel
theorem dX10_isLeftPawed_1 : decode cX10_isLeftPawed 1 = .ok (.iload_n 1, 1) := by decide +kernel
theorem dX10_isLeftPawed_2 : decode cX10_isLeftPawed 2 = .ok (.invokevirtual 114, 3) := by decide +kernel
theorem dX10_isLeftPawed_5 : decode cX10_isLeftPawed 5 = .ok (.getfield 138, 3) := by decide +kernel
theorem dX10_isLeftPawed_8 : decode cX10_isLeftPawed 8 = .ok (.ireturn, 1) := by decide +kernel
theorem dX10_tirednessOf_0 : decode cX10_tirednessOf 0 = .ok (.aload_n 0, 1) := by decide +kernel
theorem dX10_tirednessOf_1 : decode cX10_tirednessOf 1 = .ok (.iload_n 1, 1) := by decide +kernel
theorem dX10_tirednessOf_2 : decode cX10_tirednessOf 2 = .ok (.invokevirtual 114, 3) := by decide +kernel
theorem dX10_tirednessOf_5 : decode cX10_tirednessOf 5 = .ok (.getfield 141, 3) := by decide +kernel
theorem dX10_tirednessOf_8 : decode cX10_tirednessOf 8 = .ok (.ireturn, 1) := by decide +kernel
theorem dX10_strengthOf_0 : decode cX10_strengthOf 0 = .ok (.aload_n 0, 1) := by decide +kernel
theorem dX10_strengthOf_1 : decode cX10_strengthOf 1 = .ok (.iload_n 1, 1) := by decide +kernel
theorem dX10_strengthOf_2 : decode cX10_strengthOf 2 = .ok (.invokevirtual 114, 3) := by decide +kernel
theorem dX10_strengthOf_5 : decode cX10_strengthOf 5 = .ok (.invokevirtual 144, 3) := by decide +kernel
theorem dX10_strengthOf_8 : decode cX10_strengthOf 8 = .ok (.ireturn, 1) := by decide +kernel
theorem dX10_caughtBy_0 : decode cX10_caughtBy 0 = .ok (.aload_n 0, 1) := by decide +kernel
theorem dX10_caughtBy_1 : decode cX10_caughtBy 1 = .ok (.iload_n 1, 1) := by decide +kernel
theorem dX10_caughtBy_2 : decode cX10_caughtBy 2 = .ok (.invokevirtual 114, 3) := by decide +kernel
theorem dX10_caughtBy_5 : decode cX10_caughtBy 5 = .ok (.getfield 147, 3) := by decide +kernel
theorem dX10_caughtBy_8 : decode cX10_caughtBy 8 = .ok (.ireturn, 1) := by decide +kernel
theorem dX10_oathsOf_0 : decode cX10_oathsOf 0 = .ok (.aload_n 0, 1) := by decide +kernel
theorem dX10_oathsOf_1 : decode cX10_oathsOf 1 = .ok (.iload_n 1, 1) := by decide +kernel
theorem dX10_oathsOf_2 : decode cX10_oathsOf 2 = .ok (.invokevirtual 114, 3) := by decide +kernel
theorem dX10_oathsOf_5 : decode cX10_oathsOf 5 = .ok (.getfield 150, 3) := by decide +kernel
theorem dX10_oathsOf_8 : decode cX10_oathsOf 8 = .ok (.ireturn, 1) := by decide +kernel
theorem dX10_grainIn_0 : decode cX10_grainIn 0 = .ok (.aload_n 0, 1) := by decide +kernel
theorem dX10_grainIn_1 : decode cX10_grainIn 1 = .ok (.iload_n 1, 1) := by decide +kernel
theorem dX10_grainIn_2 : decode cX10_grainIn 2 = .ok (.invokevirtual 128, 3) := by decide +kernel
theorem dX10_grainIn_5 : decode cX10_grainIn 5 = .ok (.getfield 153, 3) := by decide +kernel
theorem dX10_grainIn_8 : decode cX10_grainIn 8 = .ok (.ireturn, 1) := by decide +kernel
theorem dX10_miceIn_0 : decode cX10_miceIn 0 = .ok (.aload_n 0, 1) := by decide +kernel
theorem dX10_miceIn_1 : decode cX10_miceIn 1 = .ok (.iload_n 1, 1) := by decide +kernel
theorem dX10_miceIn_2 : decode cX10_miceIn 2 = .ok (.invokevirtual 128, 3) := by decide +kernel
theorem dX10_miceIn_5 : decode cX10_miceIn 5 = .ok (.getfield 156, 3) := by decide +kernel
theorem dX10_miceIn_8 : decode cX10_miceIn 8 = .ok (.ireturn, 1) := by decide +kernel
theorem dX10_isOpen_0 : decode cX10_isOpen 0 = .ok (.aload_n 0, 1) := by decide +kernel
theorem dX10_isOpen_1 : decode cX10_isOpen 1 = .ok (.iload_n 1, 1) := by decide +kernel
theorem dX10_isOpen_2 : decode cX10_isOpen 2 = .ok (.invokevirtual 128, 3) := by decide +kernel
theorem dX10_isOpen_5 : decode cX10_isOpen 5 = .ok (.getfield 159, 3) := by decide +kernel
theorem dX10_isOpen_8 : decode cX10_isOpen 8 = .ok (.ireturn, 1) := by decide +kernel
theorem dX10_eatenFrom_0 : decode cX10_eatenFrom 0 = .ok (.aload_n 0, 1) := by decide +kernel
theorem dX10_eatenFrom_1 : decode cX10_eatenFrom 1 = .ok (.iload_n 1, 1) := by decide +kernel
theorem dX10_eatenFrom_2 : decode cX10_eatenFrom 2 = .ok (.invokevirtual 128, 3) := by decide +kernel
theorem dX10_eatenFrom_5 : decode cX10_eatenFrom 5 = .ok (.getfield 162, 3) := by decide +kernel
theorem dX10_eatenFrom_8 : decode cX10_eatenFrom 8 = .ok (.ireturn, 1) := by decide +kernel
theorem dX10_swornCat_0 : decode cX10_swornCat 0 = .ok (.aload_n 0, 1) := by decide +kernel
theorem dX10_swornCat_1 : decode cX10_swornCat 1 = .ok (.getfield 26, 3) := by decide +kernel
theorem dX10_swornCat_4 : decode cX10_swornCat 4 = .ok (.getfield 165, 3) := by decide +kernel
theorem dX10_swornCat_7 : decode cX10_swornCat 7 = .ok (.ireturn, 1) := by decide +kernel
theorem dX10_currentShift_0 : decode cX10_currentShift 0 = .ok (.aload_n 0, 1) := by decide +kernel
theorem dX10_currentShift_1 : decode cX10_currentShift 1 = .ok (.getfield 26, 3) := by decide +kernel
theorem dX10_currentShift_4 : decode cX10_currentShift 4 = .ok (.getfield 168, 3) := by decide +kernel
theorem dX10_currentShift_7 : decode cX10_currentShift 7 = .ok (.ireturn, 1) := by decide +kernel
theorem dX10_hoursLeft_0 : decode cX10_hoursLeft 0 = .ok (.aload_n 0, 1) := by decide +kernel
theorem dX10_hoursLeft_1 : decode cX10_hoursLeft 1 = .ok (.getfield 26, 3) := by decide +kernel
theorem dX10_hoursLeft_4 : decode cX10_hoursLeft 4 = .ok (.getfield 171, 3) := by decide +kernel
theorem dX10_hoursLeft_7 : decode cX10_hoursLeft 7 = .ok (.ireturn, 1) := by decide +kernel
theorem dX10_catOfShift_0 : decode cX10_catOfShift 0 = .ok (.aload_n 0, 1) := by decide +kernel
theorem dX10_catOfShift_1 : decode cX10_catOfShift 1 = .ok (.iload_n 1, 1) := by decide +kernel
theorem dX10_catOfShift_2 : decode cX10_catOfShift 2 = .ok (.invokevirtual 174, 3) := by decide +kernel
theorem dX10_catOfShift_5 : decode cX10_catOfShift 5 = .ok (.getfield 178, 3) := by decide +kernel
theorem dX10_catOfShift_8 : decode cX10_catOfShift 8 = .ok (.ireturn, 1) := by decide +kernel
theorem dX10_hoursOfShift_0 : decode cX10_hoursOfShift 0 = .ok (.aload_n 0, 1) := by decide +kernel
theorem dX10_hoursOfShift_1 : decode cX10_hoursOfShift 1 = .ok (.iload_n 1, 1) := by decide +kernel
theorem dX10_hoursOfShift_2 : decode cX10_hoursOfShift 2 = .ok (.invokevirtual 174, 3) := by decide +kernel
theorem dX10_hoursOfShift_5 : decode cX10_hoursOfShift 5 = .ok (.getfield 183, 3) := by decide +kernel
theorem dX10_hoursOfShift_8 : decode cX10_hoursOfShift 8 = .ok (.ireturn, 1) := by decide +kernel
theorem dX10_oathReason_0 : decode cX10_oathReason 0 = .ok (.aload_n 0, 1) := by decide +kernel
theorem dX10_oathReason_1 : decode cX10_oathReason 1 = .ok (.iload_n 1, 1) := by decide +kernel
theorem dX10_oathReason_2 : decode cX10_oathReason 2 = .ok (.invokevirtual 114, 3) := by decide +kernel
theorem dX10_oathReason_5 : decode cX10_oathReason 5 = .ok (.pop, 1) := by decide +kernel
theorem dX10_oathReason_6 : decode cX10_oathReason 6 = .ok (.aload_n 0, 1) := by decide +kernel
theorem dX10_oathReason_7 : decode cX10_oathReason 7 = .ok (.getfield 26, 3) := by decide +kernel
theorem dX10_oathReason_10 : decode cX10_oathReason 10 = .ok (.iload_n 1, 1) := by decide +kernel
theorem dX10_oathReason_11 : decode cX10_oathReason 11 = .ok (.invokevirtual 186, 3) := by decide +kernel
theorem dX10_oathReason_14 : decode cX10_oathReason 14 = .ok (.ireturn, 1) := by decide +kernel
theorem dX10_huntingSack_0 : decode cX10_huntingSack 0 = .ok (.aload_n 0, 1) := by decide +kernel
theorem dX10_huntingSack_1 : decode cX10_huntingSack 1 = .ok (.getfield 26, 3) := by decide +kernel
theorem dX10_huntingSack_4 : decode cX10_huntingSack 4 = .ok (.invokevirtual 190, 3) := by decide +kernel
theorem dX10_huntingSack_7 : decode cX10_huntingSack 7 = .ok (.ireturn, 1) := by decide +kernel
theorem dX10_eventCount_0 : decode cX10_eventCount 0 = .ok (.aload_n 0, 1) := by decide +kernel
theorem dX10_eventCount_1 : decode cX10_eventCount 1 = .ok (.getfield 26, 3) := by decide +kernel
theorem dX10_eventCount_4 : decode cX10_eventCount 4 = .ok (.getfield 193, 3) := by decide +kernel
theorem dX10_eventCount_7 : decode cX10_eventCount 7 = .ok (.getfield 197, 3) := by decide +kernel
theorem dX10_eventCount_10 : decode cX10_eventCount 10 = .ok (.ireturn, 1) := by decide +kernel
theorem dX10_eventKind_0 : decode cX10_eventKind 0 = .ok (.aload_n 0, 1) := by decide +kernel
theorem dX10_eventKind_1 : decode cX10_eventKind 1 = .ok (.getfield 26, 3) := by decide +kernel
theorem dX10_eventKind_4 : decode cX10_eventKind 4 = .ok (.getfield 193, 3) := by decide +kernel
theorem dX10_eventKind_7 : decode cX10_eventKind 7 = .ok (.iload_n 1, 1) := by decide +kernel
theorem dX10_eventKind_8 : decode cX10_eventKind 8 = .ok (.invokevirtual 202, 3) := by decide +kernel
theorem dX10_eventKind_11 : decode cX10_eventKind 11 = .ok (.ifCond .eq 28, 3) := by decide +kernel
theorem dX10_eventKind_14 : decode cX10_eventKind 14 = .ok (.aload_n 0, 1) := by decide +kernel
theorem dX10_eventKind_15 : decode cX10_eventKind 15 = .ok (.getfield 26, 3) := by decide +kernel
theorem dX10_eventKind_18 : decode cX10_eventKind 18 = .ok (.getfield 193, 3) := by decide +kernel
theorem dX10_eventKind_21 : decode cX10_eventKind 21 = .ok (.getfield 206, 3) := by decide +kernel
theorem dX10_eventKind_24 : decode cX10_eventKind 24 = .ok (.aload_n 0, 1) := by decide +kernel
theorem dX10_eventKind_25 : decode cX10_eventKind 25 = .ok (.getfield 26, 3) := by decide +kernel
theorem dX10_eventKind_28 : decode cX10_eventKind 28 = .ok (.getfield 193, 3) := by decide +kernel
theorem dX10_eventKind_31 : decode cX10_eventKind 31 = .ok (.iload_n 1, 1) := by decide +kernel
theorem dX10_eventKind_32 : decode cX10_eventKind 32 = .ok (.invokevirtual 210, 3) := by decide +kernel
theorem dX10_eventKind_35 : decode cX10_eventKind 35 = .ok (.iaload, 1) := by decide +kernel
theorem dX10_eventKind_36 : decode cX10_eventKind 36 = .ok (.goto 4, 3) := by decide +kernel
theorem dX10_eventKind_39 : decode cX10_eventKind 39 = .ok (.iconst (-1), 1) := by decide +kernel
theorem dX10_eventKind_40 : decode cX10_eventKind 40 = .ok (.ireturn, 1) := by decide +kernel
theorem dX10_eventCat_0 : decode cX10_eventCat 0 = .ok (.aload_n 0, 1) := by decide +kernel
theorem dX10_eventCat_1 : decode cX10_eventCat 1 = .ok (.getfield 26, 3) := by decide +kernel
theorem dX10_eventCat_4 : decode cX10_eventCat 4 = .ok (.getfield 193, 3) := by decide +kernel
theorem dX10_eventCat_7 : decode cX10_eventCat 7 = .ok (.iload_n 1, 1) := by decide +kernel
theorem dX10_eventCat_8 : decode cX10_eventCat 8 = .ok (.invokevirtual 202, 3) := by decide +kernel
theorem dX10_eventCat_11 : decode cX10_eventCat 11 = .ok (.ifCond .eq 28, 3) := by decide +kernel
theorem dX10_eventCat_14 : decode cX10_eventCat 14 = .ok (.aload_n 0, 1) := by decide +kernel
theorem dX10_eventCat_15 : decode cX10_eventCat 15 = .ok (.getfield 26, 3) := by decide +kernel
theorem dX10_eventCat_18 : decode cX10_eventCat 18 = .ok (.getfield 193, 3) := by decide +kernel
theorem dX10_eventCat_21 : decode cX10_eventCat 21 = .ok (.getfield 213, 3) := by decide +kernel
theorem dX10_eventCat_24 : decode cX10_eventCat 24 = .ok (.aload_n 0, 1) := by decide +kernel
theorem dX10_eventCat_25 : decode cX10_eventCat 25 = .ok (.getfield 26, 3) := by decide +kernel
theorem dX10_eventCat_28 : decode cX10_eventCat 28 = .ok (.getfield 193, 3) := by decide +kernel
theorem dX10_eventCat_31 : decode cX10_eventCat 31 = .ok (.iload_n 1, 1) := by decide +kernel
theorem dX10_eventCat_32 : decode cX10_eventCat 32 = .ok (.invokevirtual 210, 3) := by decide +kernel
theorem dX10_eventCat_35 : decode cX10_eventCat 35 = .ok (.iaload, 1) := by decide +kernel
theorem dX10_eventCat_36 : decode cX10_eventCat 36 = .ok (.goto 4, 3) := by decide +kernel
theorem dX10_eventCat_39 : decode cX10_eventCat 39 = .ok (.iconst (-1), 1) := by decide +kernel
theorem dX10_eventCat_40 : decode cX10_eventCat 40 = .ok (.ireturn, 1) := by decide +kernel
theorem dX10_eventNumber_0 : decode cX10_eventNumber 0 = .ok (.aload_n 0, 1) := by decide +kernel
theorem dX10_eventNumber_1 : decode cX10_eventNumber 1 = .ok (.getfield 26, 3) := by decide +kernel
theorem dX10_eventNumber_4 : decode cX10_eventNumber 4 = .ok (.getfield 193, 3) := by decide +kernel
theorem dX10_eventNumber_7 : decode cX10_eventNumber 7 = .ok (.iload_n 1, 1) := by decide +kernel
theorem dX10_eventNumber_8 : decode cX10_eventNumber 8 = .ok (.invokevirtual 202, 3) := by decide +kernel
theorem dX10_eventNumber_11 : decode cX10_eventNumber 11 = .ok (.ifCond .eq 28, 3) := by decide +kernel
theorem dX10_eventNumber_14 : decode cX10_eventNumber 14 = .ok (.aload_n 0, 1) := by decide +kernel
theorem dX10_eventNumber_15 : decode cX10_eventNumber 15 = .ok (.getfield 26, 3) := by decide +kernel
theorem dX10_eventNumber_18 : decode cX10_eventNumber 18 = .ok (.getfield 193, 3) := by decide +kernel
theorem dX10_eventNumber_21 : decode cX10_eventNumber 21 = .ok (.getfield 216, 3) := by decide +kernel
theorem dX10_eventNumber_24 : decode cX10_eventNumber 24 = .ok (.aload_n 0, 1) := by decide +kernel
theorem dX10_eventNumber_25 : decode cX10_eventNumber 25 = .ok (.getfield 26, 3) := by decide +kernel
theorem dX10_eventNumber_28 : decode cX10_eventNumber 28 = .ok (.getfield 193, 3) := by decide +kernel
theorem dX10_eventNumber_31 : decode cX10_eventNumber 31 = .ok (.iload_n 1, 1) := by decide +kernel
theorem dX10_eventNumber_32 : decode cX10_eventNumber 32 = .ok (.invokevirtual 210, 3) := by decide +kernel
theorem dX10_eventNumber_35 : decode cX10_eventNumber 35 = .ok (.iaload, 1) := by decide +kernel
theorem dX10_eventNumber_36 : decode cX10_eventNumber 36 = .ok (.goto 4, 3) := by decide +kernel
theorem dX10_eventNumber_39 : decode cX10_eventNumber 39 = .ok (.iconst (-1), 1) := by decide +kernel
theorem dX10_eventNumber_40 : decode cX10_eventNumber 40 = .ok (.ireturn, 1) := by decide +kernel
theorem dX10_milk_0 : decode cX10_milk 0 = .ok (.aload_n 0, 1) := by decide +kernel
theorem dX10_milk_1 : decode cX10_milk 1 = .ok (.getfield 26, 3) := by decide +kernel
theorem dX10_milk_4 : decode cX10_milk 4 = .ok (.getfield 219, 3) := by decide +kernel
theorem dX10_milk_7 : decode cX10_milk 7 = .ok (.ireturn, 1) := by decide +kernel
theorem dX10_miceAfter_0 : decode cX10_miceAfter 0 = .ok (.aload_n 0, 1) := by decide +kernel
theorem dX10_miceAfter_1 : decode cX10_miceAfter 1 = .ok (.iload_n 1, 1) := by decide +kernel
theorem dX10_miceAfter_2 : decode cX10_miceAfter 2 = .ok (.invokevirtual 128, 3) := by decide +kernel
theorem dX10_miceAfter_5 : decode cX10_miceAfter 5 = .ok (.pop, 1) := by decide +kernel
theorem dX10_miceAfter_6 : decode cX10_miceAfter 6 = .ok (.aload_n 0, 1) := by decide +kernel
theorem dX10_miceAfter_7 : decode cX10_miceAfter 7 = .ok (.iload_n 2, 1) := by decide +kernel
theorem dX10_miceAfter_8 : decode cX10_miceAfter 8 = .ok (.invokevirtual 222, 3) := by decide +kernel
theorem dX10_miceAfter_11 : decode cX10_miceAfter 11 = .ok (.aload_n 0, 1) := by decide +kernel
theorem dX10_miceAfter_12 : decode cX10_miceAfter 12 = .ok (.getfield 33, 3) := by decide +kernel
theorem dX10_miceAfter_15 : decode cX10_miceAfter 15 = .ok (.getfield 225, 3) := by decide +kernel
theorem dX10_miceAfter_18 : decode cX10_miceAfter 18 = .ok (.iload_n 1, 1) := by decide +kernel
theorem dX10_miceAfter_19 : decode cX10_miceAfter 19 = .ok (.aaload, 1) := by decide +kernel
theorem dX10_miceAfter_20 : decode cX10_miceAfter 20 = .ok (.getfield 156, 3) := by decide +kernel
theorem dX10_miceAfter_23 : decode cX10_miceAfter 23 = .ok (.ireturn, 1) := by decide +kernel
theorem dX10_grainAfter_0 : decode cX10_grainAfter 0 = .ok (.aload_n 0, 1) := by decide +kernel
theorem dX10_grainAfter_1 : decode cX10_grainAfter 1 = .ok (.iload_n 1, 1) := by decide +kernel
theorem dX10_grainAfter_2 : decode cX10_grainAfter 2 = .ok (.invokevirtual 128, 3) := by decide +kernel
theorem dX10_grainAfter_5 : decode cX10_grainAfter 5 = .ok (.pop, 1) := by decide +kernel
theorem dX10_grainAfter_6 : decode cX10_grainAfter 6 = .ok (.aload_n 0, 1) := by decide +kernel
theorem dX10_grainAfter_7 : decode cX10_grainAfter 7 = .ok (.iload_n 2, 1) := by decide +kernel
theorem dX10_grainAfter_8 : decode cX10_grainAfter 8 = .ok (.invokevirtual 222, 3) := by decide +kernel
theorem dX10_grainAfter_11 : decode cX10_grainAfter 11 = .ok (.aload_n 0, 1) := by decide +kernel
theorem dX10_grainAfter_12 : decode cX10_grainAfter 12 = .ok (.getfield 33, 3) := by decide +kernel
theorem dX10_grainAfter_15 : decode cX10_grainAfter 15 = .ok (.getfield 225, 3) := by decide +kernel
theorem dX10_grainAfter_18 : decode cX10_grainAfter 18 = .ok (.iload_n 1, 1) := by decide +kernel
theorem dX10_grainAfter_19 : decode cX10_grainAfter 19 = .ok (.aaload, 1) := by decide +kernel
theorem dX10_grainAfter_20 : decode cX10_grainAfter 20 = .ok (.getfield 153, 3) := by decide +kernel
theorem dX10_grainAfter_23 : decode cX10_grainAfter 23 = .ok (.ireturn, 1) := by decide +kernel
theorem dX10_swornAfter_0 : decode cX10_swornAfter 0 = .ok (.aload_n 0, 1) := by decide +kernel
theorem dX10_swornAfter_1 : decode cX10_swornAfter 1 = .ok (.iload_n 1, 1) := by decide +kernel
theorem dX10_swornAfter_2 : decode cX10_swornAfter 2 = .ok (.invokevirtual 222, 3) := by decide +kernel
theorem dX10_swornAfter_5 : decode cX10_swornAfter 5 = .ok (.aload_n 0, 1) := by decide +kernel
theorem dX10_swornAfter_6 : decode cX10_swornAfter 6 = .ok (.getfield 33, 3) := by decide +kernel
theorem dX10_swornAfter_9 : decode cX10_swornAfter 9 = .ok (.getfield 165, 3) := by decide +kernel
theorem dX10_swornAfter_12 : decode cX10_swornAfter 12 = .ok (.ireturn, 1) := by decide +kernel
theorem dX10_hoursUntilUnguarded_0 : decode cX10_hoursUntilUnguarded 0 = .ok (.aload_n 0, 1) := by decide +kernel
theorem dX10_hoursUntilUnguarded_1 : decode cX10_hoursUntilUnguarded 1 = .ok (.getfield 33, 3) := by decide +kernel
theorem dX10_hoursUntilUnguarded_4 : decode cX10_hoursUntilUnguarded 4 = .ok (.aload_n 0, 1) := by decide +kernel
theorem dX10_hoursUntilUnguarded_5 : decode cX10_hoursUntilUnguarded 5 = .ok (.getfield 26, 3) := by decide +kernel
theorem dX10_hoursUntilUnguarded_8 : decode cX10_hoursUntilUnguarded 8 = .ok (.invokevirtual 73, 3) := by decide +kernel
theorem dX10_hoursUntilUnguarded_11 : decode cX10_hoursUntilUnguarded 11 = .ok (.iconst 0, 1) := by decide +kernel
theorem dX10_hoursUntilUnguarded_12 : decode cX10_hoursUntilUnguarded 12 = .ok (.istore_n 1, 1) := by decide +kernel
theorem dX10_hoursUntilUnguarded_13 : decode cX10_hoursUntilUnguarded 13 = .ok (.iload_n 1, 1) := by decide +kernel
theorem dX10_hoursUntilUnguarded_14 : decode cX10_hoursUntilUnguarded 14 = .ok (.sipush 200, 3) := by decide +kernel
theorem dX10_hoursUntilUnguarded_17 : decode cX10_hoursUntilUnguarded 17 = .ok (.if_icmp .gt 29, 3) := by decide +kernel
theorem dX10_hoursUntilUnguarded_20 : decode cX10_hoursUntilUnguarded 20 = .ok (.aload_n 0, 1) := by decide +kernel
theorem dX10_hoursUntilUnguarded_21 : decode cX10_hoursUntilUnguarded 21 = .ok (.getfield 33, 3) := by decide +kernel
theorem dX10_hoursUntilUnguarded_24 : decode cX10_hoursUntilUnguarded 24 = .ok (.getfield 165, 3) := by decide +kernel
theorem dX10_hoursUntilUnguarded_27 : decode cX10_hoursUntilUnguarded 27 = .ok (.iconst (-1), 1) := by decide +kernel
theorem dX10_hoursUntilUnguarded_28 : decode cX10_hoursUntilUnguarded 28 = .ok (.if_icmp .ne 5, 3) := by decide +kernel
theorem dX10_hoursUntilUnguarded_31 : decode cX10_hoursUntilUnguarded 31 = .ok (.iload_n 1, 1) := by decide +kernel
theorem dX10_hoursUntilUnguarded_32 : decode cX10_hoursUntilUnguarded 32 = .ok (.ireturn, 1) := by decide +kernel
theorem dX10_hoursUntilUnguarded_33 : decode cX10_hoursUntilUnguarded 33 = .ok (.aload_n 0, 1) := by decide +kernel
theorem dX10_hoursUntilUnguarded_34 : decode cX10_hoursUntilUnguarded 34 = .ok (.getfield 33, 3) := by decide +kernel
theorem dX10_hoursUntilUnguarded_37 : decode cX10_hoursUntilUnguarded 37 = .ok (.invokevirtual 229, 3) := by decide +kernel
theorem dX10_hoursUntilUnguarded_40 : decode cX10_hoursUntilUnguarded 40 = .ok (.iinc 1 1, 3) := by decide +kernel
theorem dX10_hoursUntilUnguarded_43 : decode cX10_hoursUntilUnguarded 43 = .ok (.goto (-30), 3) := by decide +kernel
theorem dX10_hoursUntilUnguarded_46 : decode cX10_hoursUntilUnguarded 46 = .ok (.iconst (-1), 1) := by decide +kernel
theorem dX10_hoursUntilUnguarded_47 : decode cX10_hoursUntilUnguarded 47 = .ok (.ireturn, 1) := by decide +kernel
theorem dX10_hoursUntilEmpty_0 : decode cX10_hoursUntilEmpty 0 = .ok (.aload_n 0, 1) := by decide +kernel
theorem dX10_hoursUntilEmpty_1 : decode cX10_hoursUntilEmpty 1 = .ok (.iload_n 1, 1) := by decide +kernel
theorem dX10_hoursUntilEmpty_2 : decode cX10_hoursUntilEmpty 2 = .ok (.invokevirtual 128, 3) := by decide +kernel
theorem dX10_hoursUntilEmpty_5 : decode cX10_hoursUntilEmpty 5 = .ok (.pop, 1) := by decide +kernel
theorem dX10_hoursUntilEmpty_6 : decode cX10_hoursUntilEmpty 6 = .ok (.aload_n 0, 1) := by decide +kernel
theorem dX10_hoursUntilEmpty_7 : decode cX10_hoursUntilEmpty 7 = .ok (.getfield 33, 3) := by decide +kernel
theorem dX10_hoursUntilEmpty_10 : decode cX10_hoursUntilEmpty 10 = .ok (.aload_n 0, 1) := by decide +kernel
theorem dX10_hoursUntilEmpty_11 : decode cX10_hoursUntilEmpty 11 = .ok (.getfield 26, 3) := by decide +kernel
theorem dX10_hoursUntilEmpty_14 : decode cX10_hoursUntilEmpty 14 = .ok (.invokevirtual 73, 3) := by decide +kernel
theorem dX10_hoursUntilEmpty_17 : decode cX10_hoursUntilEmpty 17 = .ok (.iconst 0, 1) := by decide +kernel
theorem dX10_hoursUntilEmpty_18 : decode cX10_hoursUntilEmpty 18 = .ok (.istore_n 2, 1) := by decide +kernel
theorem dX10_hoursUntilEmpty_19 : decode cX10_hoursUntilEmpty 19 = .ok (.iload_n 2, 1) := by decide +kernel
theorem dX10_hoursUntilEmpty_20 : decode cX10_hoursUntilEmpty 20 = .ok (.sipush 200, 3) := by decide +kernel
theorem dX10_hoursUntilEmpty_23 : decode cX10_hoursUntilEmpty 23 = .ok (.if_icmp .gt 33, 3) := by decide +kernel
theorem dX10_hoursUntilEmpty_26 : decode cX10_hoursUntilEmpty 26 = .ok (.aload_n 0, 1) := by decide +kernel
theorem dX10_hoursUntilEmpty_27 : decode cX10_hoursUntilEmpty 27 = .ok (.getfield 33, 3) := by decide +kernel
theorem dX10_hoursUntilEmpty_30 : decode cX10_hoursUntilEmpty 30 = .ok (.getfield 225, 3) := by decide +kernel
theorem dX10_hoursUntilEmpty_33 : decode cX10_hoursUntilEmpty 33 = .ok (.iload_n 1, 1) := by decide +kernel
theorem dX10_hoursUntilEmpty_34 : decode cX10_hoursUntilEmpty 34 = .ok (.aaload, 1) := by decide +kernel
theorem dX10_hoursUntilEmpty_35 : decode cX10_hoursUntilEmpty 35 = .ok (.getfield 153, 3) := by decide +kernel
theorem dX10_hoursUntilEmpty_38 : decode cX10_hoursUntilEmpty 38 = .ok (.ifCond .ne 5, 3) := by decide +kernel
theorem dX10_hoursUntilEmpty_41 : decode cX10_hoursUntilEmpty 41 = .ok (.iload_n 2, 1) := by decide +kernel
theorem dX10_hoursUntilEmpty_42 : decode cX10_hoursUntilEmpty 42 = .ok (.ireturn, 1) := by decide +kernel
theorem dX10_hoursUntilEmpty_43 : decode cX10_hoursUntilEmpty 43 = .ok (.aload_n 0, 1) := by decide +kernel
theorem dX10_hoursUntilEmpty_44 : decode cX10_hoursUntilEmpty 44 = .ok (.getfield 33, 3) := by decide +kernel
theorem dX10_hoursUntilEmpty_47 : decode cX10_hoursUntilEmpty 47 = .ok (.invokevirtual 229, 3) := by decide +kernel
theorem dX10_hoursUntilEmpty_50 : decode cX10_hoursUntilEmpty 50 = .ok (.iinc 2 1, 3) := by decide +kernel
theorem dX10_hoursUntilEmpty_53 : decode cX10_hoursUntilEmpty 53 = .ok (.goto (-34), 3) := by decide +kernel
theorem dX10_hoursUntilEmpty_56 : decode cX10_hoursUntilEmpty 56 = .ok (.iconst (-1), 1) := by decide +kernel
theorem dX10_hoursUntilEmpty_57 : decode cX10_hoursUntilEmpty 57 = .ok (.ireturn, 1) := by decide +kernel
theorem dX10_caughtWithin_0 : decode cX10_caughtWithin 0 = .ok (.aload_n 0, 1) := by decide +kernel
theorem dX10_caughtWithin_1 : decode cX10_caughtWithin 1 = .ok (.iload_n 1, 1) := by decide +kernel
theorem dX10_caughtWithin_2 : decode cX10_caughtWithin 2 = .ok (.invokevirtual 222, 3) := by decide +kernel
theorem dX10_caughtWithin_5 : decode cX10_caughtWithin 5 = .ok (.aload_n 0, 1) := by decide +kernel
theorem dX10_caughtWithin_6 : decode cX10_caughtWithin 6 = .ok (.getfield 33, 3) := by decide +kernel
theorem dX10_caughtWithin_9 : decode cX10_caughtWithin 9 = .ok (.getfield 232, 3) := by decide +kernel
theorem dX10_caughtWithin_12 : decode cX10_caughtWithin 12 = .ok (.getfield 236, 3) := by decide +kernel
theorem dX10_caughtWithin_15 : decode cX10_caughtWithin 15 = .ok (.aload_n 0, 1) := by decide +kernel
theorem dX10_caughtWithin_16 : decode cX10_caughtWithin 16 = .ok (.getfield 26, 3) := by decide +kernel
theorem dX10_caughtWithin_19 : decode cX10_caughtWithin 19 = .ok (.getfield 232, 3) := by decide +kernel
theorem dX10_caughtWithin_22 : decode cX10_caughtWithin 22 = .ok (.getfield 236, 3) := by decide +kernel
theorem dX10_caughtWithin_25 : decode cX10_caughtWithin 25 = .ok (.isub, 1) := by decide +kernel
theorem dX10_caughtWithin_26 : decode cX10_caughtWithin 26 = .ok (.ireturn, 1) := by decide +kernel
theorem dX10_bestFlapToChange_0 : decode cX10_bestFlapToChange 0 = .ok (.aload_n 0, 1) := by decide +kernel
theorem dX10_bestFlapToChange_1 : decode cX10_bestFlapToChange 1 = .ok (.iload_n 1, 1) := by decide +kernel
theorem dX10_bestFlapToChange_2 : decode cX10_bestFlapToChange 2 = .ok (.invokevirtual 222, 3) := by decide +kernel
theorem dX10_bestFlapToChange_5 : decode cX10_bestFlapToChange 5 = .ok (.aload_n 0, 1) := by decide +kernel
theorem dX10_bestFlapToChange_6 : decode cX10_bestFlapToChange 6 = .ok (.getfield 33, 3) := by decide +kernel
theorem dX10_bestFlapToChange_9 : decode cX10_bestFlapToChange 9 = .ok (.invokevirtual 239, 3) := by decide +kernel
theorem dX10_bestFlapToChange_12 : decode cX10_bestFlapToChange 12 = .ok (.istore_n 2, 1) := by decide +kernel
theorem dX10_bestFlapToChange_13 : decode cX10_bestFlapToChange 13 = .ok (.iconst (-1), 1) := by decide +kernel
theorem dX10_bestFlapToChange_14 : decode cX10_bestFlapToChange 14 = .ok (.istore_n 3, 1) := by decide +kernel
theorem dX10_bestFlapToChange_15 : decode cX10_bestFlapToChange 15 = .ok (.iconst 0, 1) := by decide +kernel
theorem dX10_bestFlapToChange_16 : decode cX10_bestFlapToChange 16 = .ok (.istore 4, 2) := by decide +kernel
theorem dX10_bestFlapToChange_18 : decode cX10_bestFlapToChange 18 = .ok (.iload 4, 2) := by decide +kernel
theorem dX10_bestFlapToChange_20 : decode cX10_bestFlapToChange 20 = .ok (.aload_n 0, 1) := by decide +kernel
theorem dX10_bestFlapToChange_21 : decode cX10_bestFlapToChange 21 = .ok (.getfield 26, 3) := by decide +kernel
theorem dX10_bestFlapToChange_24 : decode cX10_bestFlapToChange 24 = .ok (.getfield 108, 3) := by decide +kernel
theorem dX10_bestFlapToChange_27 : decode cX10_bestFlapToChange 27 = .ok (.if_icmp .ge 30, 3) := by decide +kernel
theorem dX10_bestFlapToChange_30 : decode cX10_bestFlapToChange 30 = .ok (.aload_n 0, 1) := by decide +kernel
theorem dX10_bestFlapToChange_31 : decode cX10_bestFlapToChange 31 = .ok (.iload 4, 2) := by decide +kernel
theorem dX10_bestFlapToChange_33 : decode cX10_bestFlapToChange 33 = .ok (.iload_n 1, 1) := by decide +kernel
theorem dX10_bestFlapToChange_34 : decode cX10_bestFlapToChange 34 = .ok (.invokevirtual 242, 3) := by decide +kernel
theorem dX10_bestFlapToChange_37 : decode cX10_bestFlapToChange 37 = .ok (.istore 5, 2) := by decide +kernel
theorem dX10_bestFlapToChange_39 : decode cX10_bestFlapToChange 39 = .ok (.iload 5, 2) := by decide +kernel
theorem dX10_bestFlapToChange_41 : decode cX10_bestFlapToChange 41 = .ok (.iload_n 2, 1) := by decide +kernel
theorem dX10_bestFlapToChange_42 : decode cX10_bestFlapToChange 42 = .ok (.if_icmp .le 9, 3) := by decide +kernel
theorem dX10_bestFlapToChange_45 : decode cX10_bestFlapToChange 45 = .ok (.iload 5, 2) := by decide +kernel
theorem dX10_bestFlapToChange_47 : decode cX10_bestFlapToChange 47 = .ok (.istore_n 2, 1) := by decide +kernel
theorem dX10_bestFlapToChange_48 : decode cX10_bestFlapToChange 48 = .ok (.iload 4, 2) := by decide +kernel
theorem dX10_bestFlapToChange_50 : decode cX10_bestFlapToChange 50 = .ok (.istore_n 3, 1) := by decide +kernel
theorem dX10_bestFlapToChange_51 : decode cX10_bestFlapToChange 51 = .ok (.iinc 4 1, 3) := by decide +kernel
theorem dX10_bestFlapToChange_54 : decode cX10_bestFlapToChange 54 = .ok (.goto (-36), 3) := by decide +kernel
theorem dX10_bestFlapToChange_57 : decode cX10_bestFlapToChange 57 = .ok (.iload_n 3, 1) := by decide +kernel
theorem dX10_bestFlapToChange_58 : decode cX10_bestFlapToChange 58 = .ok (.ireturn, 1) := by decide +kernel
theorem dX10_totalCaught_0 : decode cX10_totalCaught 0 = .ok (.aload_n 0, 1) := by decide +kernel
theorem dX10_totalCaught_1 : decode cX10_totalCaught 1 = .ok (.getfield 26, 3) := by decide +kernel
theorem dX10_totalCaught_4 : decode cX10_totalCaught 4 = .ok (.getfield 232, 3) := by decide +kernel
theorem dX10_totalCaught_7 : decode cX10_totalCaught 7 = .ok (.getfield 236, 3) := by decide +kernel
theorem dX10_totalCaught_10 : decode cX10_totalCaught 10 = .ok (.ireturn, 1) := by decide +kernel
theorem dX10_totalEaten_0 : decode cX10_totalEaten 0 = .ok (.aload_n 0, 1) := by decide +kernel
theorem dX10_totalEaten_1 : decode cX10_totalEaten 1 = .ok (.getfield 26, 3) := by decide +kernel
theorem dX10_totalEaten_4 : decode cX10_totalEaten 4 = .ok (.getfield 232, 3) := by decide +kernel
theorem dX10_totalEaten_7 : decode cX10_totalEaten 7 = .ok (.getfield 246, 3) := by decide +kernel
theorem dX10_totalEaten_10 : decode cX10_totalEaten 10 = .ok (.ireturn, 1) := by decide +kernel
theorem dX10_totalBorn_0 : decode cX10_totalBorn 0 = .ok (.aload_n 0, 1) := by decide +kernel
theorem dX10_totalBorn_1 : decode cX10_totalBorn 1 = .ok (.getfield 26, 3) := by decide +kernel
theorem dX10_totalBorn_4 : decode cX10_totalBorn 4 = .ok (.getfield 232, 3) := by decide +kernel
theorem dX10_totalBorn_7 : decode cX10_totalBorn 7 = .ok (.getfield 247, 3) := by decide +kernel
theorem dX10_totalBorn_10 : decode cX10_totalBorn 10 = .ok (.ireturn, 1) := by decide +kernel
theorem dX10_totalStarved_0 : decode cX10_totalStarved 0 = .ok (.aload_n 0, 1) := by decide +kernel
theorem dX10_totalStarved_1 : decode cX10_totalStarved 1 = .ok (.getfield 26, 3) := by decide +kernel
theorem dX10_totalStarved_4 : decode cX10_totalStarved 4 = .ok (.getfield 232, 3) := by decide +kernel
theorem dX10_totalStarved_7 : decode cX10_totalStarved 7 = .ok (.getfield 250, 3) := by decide +kernel
theorem dX10_totalStarved_10 : decode cX10_totalStarved 10 = .ok (.ireturn, 1) := by decide +kernel
theorem dX10_totalOaths_0 : decode cX10_totalOaths 0 = .ok (.aload_n 0, 1) := by decide +kernel
theorem dX10_totalOaths_1 : decode cX10_totalOaths 1 = .ok (.getfield 26, 3) := by decide +kernel
theorem dX10_totalOaths_4 : decode cX10_totalOaths 4 = .ok (.getfield 232, 3) := by decide +kernel
theorem dX10_totalOaths_7 : decode cX10_totalOaths 7 = .ok (.getfield 253, 3) := by decide +kernel
theorem dX10_totalOaths_10 : decode cX10_totalOaths 10 = .ok (.ireturn, 1) := by decide +kernel
theorem dX10_totalRefusals_0 : decode cX10_totalRefusals 0 = .ok (.aload_n 0, 1) := by decide +kernel
theorem dX10_totalRefusals_1 : decode cX10_totalRefusals 1 = .ok (.getfield 26, 3) := by decide +kernel
theorem dX10_totalRefusals_4 : decode cX10_totalRefusals 4 = .ok (.getfield 232, 3) := by decide +kernel
theorem dX10_totalRefusals_7 : decode cX10_totalRefusals 7 = .ok (.getfield 254, 3) := by decide +kernel
theorem dX10_totalRefusals_10 : decode cX10_totalRefusals 10 = .ok (.ireturn, 1) := by decide +kernel
theorem dX10_isConsistent_0 : decode cX10_isConsistent 0 = .ok (.aload_n 0, 1) := by decide +kernel
theorem dX10_isConsistent_1 : decode cX10_isConsistent 1 = .ok (.getfield 26, 3) := by decide +kernel
theorem dX10_isConsistent_4 : decode cX10_isConsistent 4 = .ok (.invokevirtual 257, 3) := by decide +kernel
theorem dX10_isConsistent_7 : decode cX10_isConsistent 7 = .ok (.ifCond .eq 27, 3) := by decide +kernel
theorem dX10_isConsistent_10 : decode cX10_isConsistent 10 = .ok (.aload_n 0, 1) := by decide +kernel
theorem dX10_isConsistent_11 : decode cX10_isConsistent 11 = .ok (.getfield 26, 3) := by decide +kernel
theorem dX10_isConsistent_14 : decode cX10_isConsistent 14 = .ok (.invokevirtual 260, 3) := by decide +kernel
theorem dX10_isConsistent_17 : decode cX10_isConsistent 17 = .ok (.ifCond .eq 17, 3) := by decide +kernel
theorem dX10_isConsistent_20 : decode cX10_isConsistent 20 = .ok (.aload_n 0, 1) := by decide +kernel
theorem dX10_isConsistent_21 : decode cX10_isConsistent 21 = .ok (.getfield 26, 3) := by decide +kernel
theorem dX10_isConsistent_24 : decode cX10_isConsistent 24 = .ok (.invokevirtual 263, 3) := by decide +kernel
theorem dX10_isConsistent_27 : decode cX10_isConsistent 27 = .ok (.ifCond .eq 7, 3) := by decide +kernel
theorem dX10_isConsistent_30 : decode cX10_isConsistent 30 = .ok (.iconst 1, 1) := by decide +kernel
theorem dX10_isConsistent_31 : decode cX10_isConsistent 31 = .ok (.goto 4, 3) := by decide +kernel
theorem dX10_isConsistent_34 : decode cX10_isConsistent 34 = .ok (.iconst 0, 1) := by decide +kernel
theorem dX10_isConsistent_35 : decode cX10_isConsistent 35 = .ok (.ireturn, 1) := by decide +kernel
theorem dX10_averageTiredness_0 : decode cX10_averageTiredness 0 = .ok (.aload_n 0, 1) := by decide +kernel
theorem dX10_averageTiredness_1 : decode cX10_averageTiredness 1 = .ok (.getfield 26, 3) := by decide +kernel
theorem dX10_averageTiredness_4 : decode cX10_averageTiredness 4 = .ok (.getfield 88, 3) := by decide +kernel
theorem dX10_averageTiredness_7 : decode cX10_averageTiredness 7 = .ok (.ifCond .ne 5, 3) := by decide +kernel
theorem dX10_averageTiredness_10 : decode cX10_averageTiredness 10 = .ok (.dconst 0, 1) := by decide +kernel
theorem dX10_averageTiredness_11 : decode cX10_averageTiredness 11 = .ok (.dreturn, 1) := by decide +kernel
theorem dX10_averageTiredness_12 : decode cX10_averageTiredness 12 = .ok (.iconst 0, 1) := by decide +kernel
theorem dX10_averageTiredness_13 : decode cX10_averageTiredness 13 = .ok (.istore_n 1, 1) := by decide +kernel
theorem dX10_averageTiredness_14 : decode cX10_averageTiredness 14 = .ok (.iconst 0, 1) := by decide +kernel
theorem dX10_averageTiredness_15 : decode cX10_averageTiredness 15 = .ok (.istore_n 2, 1) := by decide +kernel
theorem dX10_averageTiredness_16 : decode cX10_averageTiredness 16 = .ok (.iload_n 2, 1) := by decide +kernel
theorem dX10_averageTiredness_17 : decode cX10_averageTiredness 17 = .ok (.aload_n 0, 1) := by decide +kernel
theorem dX10_averageTiredness_18 : decode cX10_averageTiredness 18 = .ok (.getfield 26, 3) := by decide +kernel
theorem dX10_averageTiredness_21 : decode cX10_averageTiredness 21 = .ok (.getfield 88, 3) := by decide +kernel
theorem dX10_averageTiredness_24 : decode cX10_averageTiredness 24 = .ok (.if_icmp .ge 24, 3) := by decide +kernel
theorem dX10_averageTiredness_27 : decode cX10_averageTiredness 27 = .ok (.iload_n 1, 1) := by decide +kernel
theorem dX10_averageTiredness_28 : decode cX10_averageTiredness 28 = .ok (.aload_n 0, 1) := by decide +kernel
theorem dX10_averageTiredness_29 : decode cX10_averageTiredness 29 = .ok (.getfield 26, 3) := by decide +kernel
theorem dX10_averageTiredness_32 : decode cX10_averageTiredness 32 = .ok (.getfield 266, 3) := by decide +kernel
theorem dX10_averageTiredness_35 : decode cX10_averageTiredness 35 = .ok (.iload_n 2, 1) := by decide +kernel
theorem dX10_averageTiredness_36 : decode cX10_averageTiredness 36 = .ok (.aaload, 1) := by decide +kernel
theorem dX10_averageTiredness_37 : decode cX10_averageTiredness 37 = .ok (.getfield 141, 3) := by decide +kernel
theorem dX10_averageTiredness_40 : decode cX10_averageTiredness 40 = .ok (.iadd, 1) := by decide +kernel
theorem dX10_averageTiredness_41 : decode cX10_averageTiredness 41 = .ok (.istore_n 1, 1) := by decide +kernel
theorem dX10_averageTiredness_42 : decode cX10_averageTiredness 42 = .ok (.iinc 2 1, 3) := by decide +kernel
theorem dX10_averageTiredness_45 : decode cX10_averageTiredness 45 = .ok (.goto (-29), 3) := by decide +kernel
theorem dX10_averageTiredness_48 : decode cX10_averageTiredness 48 = .ok (.iload_n 1, 1) := by decide +kernel
theorem dX10_averageTiredness_49 : decode cX10_averageTiredness 49 = .ok (.i2d, 1) := by decide +kernel
theorem dX10_averageTiredness_50 : decode cX10_averageTiredness 50 = .ok (.aload_n 0, 1) := by decide +kernel
theorem dX10_averageTiredness_51 : decode cX10_averageTiredness 51 = .ok (.getfield 26, 3) := by decide +kernel
theorem dX10_averageTiredness_54 : decode cX10_averageTiredness 54 = .ok (.getfield 88, 3) := by decide +kernel
theorem dX10_averageTiredness_57 : decode cX10_averageTiredness 57 = .ok (.i2d, 1) := by decide +kernel
theorem dX10_averageTiredness_58 : decode cX10_averageTiredness 58 = .ok (.ddiv, 1) := by decide +kernel
theorem dX10_averageTiredness_59 : decode cX10_averageTiredness 59 = .ok (.dreturn, 1) := by decide +kernel
theorem dX10_shareOf_0 : decode cX10_shareOf 0 = .ok (.aload_n 0, 1) := by decide +kernel
theorem dX10_shareOf_1 : decode cX10_shareOf 1 = .ok (.iload_n 1, 1) := by decide +kernel
theorem dX10_shareOf_2 : decode cX10_shareOf 2 = .ok (.invokevirtual 114, 3) := by decide +kernel
theorem dX10_shareOf_5 : decode cX10_shareOf 5 = .ok (.getfield 147, 3) := by decide +kernel
theorem dX10_shareOf_8 : decode cX10_shareOf 8 = .ok (.istore_n 2, 1) := by decide +kernel
theorem dX10_shareOf_9 : decode cX10_shareOf 9 = .ok (.aload_n 0, 1) := by decide +kernel
theorem dX10_shareOf_10 : decode cX10_shareOf 10 = .ok (.getfield 26, 3) := by decide +kernel
theorem dX10_shareOf_13 : decode cX10_shareOf 13 = .ok (.getfield 232, 3) := by decide +kernel
theorem dX10_shareOf_16 : decode cX10_shareOf 16 = .ok (.getfield 236, 3) := by decide +kernel
theorem dX10_shareOf_19 : decode cX10_shareOf 19 = .ok (.ifCond .ne 5, 3) := by decide +kernel
theorem dX10_shareOf_22 : decode cX10_shareOf 22 = .ok (.fconst 0, 1) := by decide +kernel
theorem dX10_shareOf_23 : decode cX10_shareOf 23 = .ok (.freturn, 1) := by decide +kernel
theorem dX10_shareOf_24 : decode cX10_shareOf 24 = .ok (.iload_n 2, 1) := by decide +kernel
theorem dX10_shareOf_25 : decode cX10_shareOf 25 = .ok (.i2f, 1) := by decide +kernel
theorem dX10_shareOf_26 : decode cX10_shareOf 26 = .ok (.aload_n 0, 1) := by decide +kernel
theorem dX10_shareOf_27 : decode cX10_shareOf 27 = .ok (.getfield 26, 3) := by decide +kernel
theorem dX10_shareOf_30 : decode cX10_shareOf 30 = .ok (.getfield 232, 3) := by decide +kernel
theorem dX10_shareOf_33 : decode cX10_shareOf 33 = .ok (.getfield 236, 3) := by decide +kernel
theorem dX10_shareOf_36 : decode cX10_shareOf 36 = .ok (.i2f, 1) := by decide +kernel
theorem dX10_shareOf_37 : decode cX10_shareOf 37 = .ok (.fdiv, 1) := by decide +kernel
theorem dX10_shareOf_38 : decode cX10_shareOf 38 = .ok (.freturn, 1) := by decide +kernel
theorem dX10_letPass_0 : decode cX10_letPass 0 = .ok (.iload_n 1, 1) := by decide +kernel
theorem dX10_letPass_1 : decode cX10_letPass 1 = .ok (.iconst 1, 1) := by decide +kernel
theorem dX10_letPass_2 : decode cX10_letPass 2 = .ok (.bipush 99, 2) := by decide +kernel
theorem dX10_letPass_4 : decode cX10_letPass 4 = .ok (.invokestatic 269, 3) := by decide +kernel
theorem dX10_letPass_7 : decode cX10_letPass 7 = .ok (.aload_n 0, 1) := by decide +kernel
theorem dX10_letPass_8 : decode cX10_letPass 8 = .ok (.iconst 0, 1) := by decide +kernel
theorem dX10_letPass_9 : decode cX10_letPass 9 = .ok (.iconst (-1), 1) := by decide +kernel
theorem dX10_letPass_10 : decode cX10_letPass 10 = .ok (.iload_n 1, 1) := by decide +kernel
theorem dX10_letPass_11 : decode cX10_letPass 11 = .ok (.invokevirtual 273, 3) := by decide +kernel
theorem dX10_letPass_14 : decode cX10_letPass 14 = .ok (.ireturn, 1) := by decide +kernel
theorem dX10_openFlap_0 : decode cX10_openFlap 0 = .ok (.aload_n 0, 1) := by decide +kernel
theorem dX10_openFlap_1 : decode cX10_openFlap 1 = .ok (.iload_n 1, 1) := by decide +kernel
theorem dX10_openFlap_2 : decode cX10_openFlap 2 = .ok (.invokevirtual 128, 3) := by decide +kernel
theorem dX10_openFlap_5 : decode cX10_openFlap 5 = .ok (.pop, 1) := by decide +kernel
theorem dX10_openFlap_6 : decode cX10_openFlap 6 = .ok (.aload_n 0, 1) := by decide +kernel
theorem dX10_openFlap_7 : decode cX10_openFlap 7 = .ok (.iconst 1, 1) := by decide +kernel
theorem dX10_openFlap_8 : decode cX10_openFlap 8 = .ok (.iload_n 1, 1) := by decide +kernel
theorem dX10_openFlap_9 : decode cX10_openFlap 9 = .ok (.iconst 0, 1) := by decide +kernel
theorem dX10_openFlap_10 : decode cX10_openFlap 10 = .ok (.invokevirtual 273, 3) := by decide +kernel
theorem dX10_openFlap_13 : decode cX10_openFlap 13 = .ok (.ireturn, 1) := by decide +kernel
theorem dX10_shutFlap_0 : decode cX10_shutFlap 0 = .ok (.aload_n 0, 1) := by decide +kernel
theorem dX10_shutFlap_1 : decode cX10_shutFlap 1 = .ok (.iload_n 1, 1) := by decide +kernel
theorem dX10_shutFlap_2 : decode cX10_shutFlap 2 = .ok (.invokevirtual 128, 3) := by decide +kernel
theorem dX10_shutFlap_5 : decode cX10_shutFlap 5 = .ok (.pop, 1) := by decide +kernel
theorem dX10_shutFlap_6 : decode cX10_shutFlap 6 = .ok (.aload_n 0, 1) := by decide +kernel
theorem dX10_shutFlap_7 : decode cX10_shutFlap 7 = .ok (.iconst 2, 1) := by decide +kernel
theorem dX10_shutFlap_8 : decode cX10_shutFlap 8 = .ok (.iload_n 1, 1) := by decide +kernel
theorem dX10_shutFlap_9 : decode cX10_shutFlap 9 = .ok (.iconst 0, 1) := by decide +kernel
theorem dX10_shutFlap_10 : decode cX10_shutFlap 10 = .ok (.invokevirtual 273, 3) := by decide +kernel
theorem dX10_shutFlap_13 : decode cX10_shutFlap 13 = .ok (.ireturn, 1) := by decide +kernel
theorem dX10_addMice_0 : decode cX10_addMice 0 = .ok (.aload_n 0, 1) := by decide +kernel
theorem dX10_addMice_1 : decode cX10_addMice 1 = .ok (.iload_n 1, 1) := by decide +kernel
theorem dX10_addMice_2 : decode cX10_addMice 2 = .ok (.invokevirtual 128, 3) := by decide +kernel
theorem dX10_addMice_5 : decode cX10_addMice 5 = .ok (.pop, 1) := by decide +kernel
theorem dX10_addMice_6 : decode cX10_addMice 6 = .ok (.iload_n 2, 1) := by decide +kernel
theorem dX10_addMice_7 : decode cX10_addMice 7 = .ok (.iconst 1, 1) := by decide +kernel
theorem dX10_addMice_8 : decode cX10_addMice 8 = .ok (.bipush 99, 2) := by decide +kernel
theorem dX10_addMice_10 : decode cX10_addMice 10 = .ok (.invokestatic 269, 3) := by decide +kernel
theorem dX10_addMice_13 : decode cX10_addMice 13 = .ok (.aload_n 0, 1) := by decide +kernel
theorem dX10_addMice_14 : decode cX10_addMice 14 = .ok (.iconst 3, 1) := by decide +kernel
theorem dX10_addMice_15 : decode cX10_addMice 15 = .ok (.iload_n 1, 1) := by decide +kernel
theorem dX10_addMice_16 : decode cX10_addMice 16 = .ok (.iload_n 2, 1) := by decide +kernel
theorem dX10_addMice_17 : decode cX10_addMice 17 = .ok (.invokevirtual 273, 3) := by decide +kernel
theorem dX10_addMice_20 : decode cX10_addMice 20 = .ok (.ireturn, 1) := by decide +kernel
theorem dX10_addGrain_0 : decode cX10_addGrain 0 = .ok (.aload_n 0, 1) := by decide +kernel
theorem dX10_addGrain_1 : decode cX10_addGrain 1 = .ok (.iload_n 1, 1) := by decide +kernel
theorem dX10_addGrain_2 : decode cX10_addGrain 2 = .ok (.invokevirtual 128, 3) := by decide +kernel
theorem dX10_addGrain_5 : decode cX10_addGrain 5 = .ok (.pop, 1) := by decide +kernel
theorem dX10_addGrain_6 : decode cX10_addGrain 6 = .ok (.iload_n 2, 1) := by decide +kernel
theorem dX10_addGrain_7 : decode cX10_addGrain 7 = .ok (.iconst 1, 1) := by decide +kernel
theorem dX10_addGrain_8 : decode cX10_addGrain 8 = .ok (.sipush 999, 3) := by decide +kernel
theorem dX10_addGrain_11 : decode cX10_addGrain 11 = .ok (.invokestatic 269, 3) := by decide +kernel
theorem dX10_addGrain_14 : decode cX10_addGrain 14 = .ok (.aload_n 0, 1) := by decide +kernel
theorem dX10_addGrain_15 : decode cX10_addGrain 15 = .ok (.iconst 4, 1) := by decide +kernel
theorem dX10_addGrain_16 : decode cX10_addGrain 16 = .ok (.iload_n 1, 1) := by decide +kernel
theorem dX10_addGrain_17 : decode cX10_addGrain 17 = .ok (.iload_n 2, 1) := by decide +kernel
theorem dX10_addGrain_18 : decode cX10_addGrain 18 = .ok (.invokevirtual 273, 3) := by decide +kernel
theorem dX10_addGrain_21 : decode cX10_addGrain 21 = .ok (.ireturn, 1) := by decide +kernel
theorem dX10_dismiss_0 : decode cX10_dismiss 0 = .ok (.aload_n 0, 1) := by decide +kernel
theorem dX10_dismiss_1 : decode cX10_dismiss 1 = .ok (.iconst 5, 1) := by decide +kernel
theorem dX10_dismiss_2 : decode cX10_dismiss 2 = .ok (.iconst (-1), 1) := by decide +kernel
theorem dX10_dismiss_3 : decode cX10_dismiss 3 = .ok (.iconst 0, 1) := by decide +kernel
theorem dX10_dismiss_4 : decode cX10_dismiss 4 = .ok (.invokevirtual 273, 3) := by decide +kernel
theorem dX10_dismiss_7 : decode cX10_dismiss 7 = .ok (.ireturn, 1) := by decide +kernel
theorem dX10_setMilk_0 : decode cX10_setMilk 0 = .ok (.iload_n 1, 1) := by decide +kernel
theorem dX10_setMilk_1 : decode cX10_setMilk 1 = .ok (.iconst 0, 1) := by decide +kernel
theorem dX10_setMilk_2 : decode cX10_setMilk 2 = .ok (.bipush 9, 2) := by decide +kernel
theorem dX10_setMilk_4 : decode cX10_setMilk 4 = .ok (.invokestatic 269, 3) := by decide +kernel
theorem dX10_setMilk_7 : decode cX10_setMilk 7 = .ok (.aload_n 0, 1) := by decide +kernel
theorem dX10_setMilk_8 : decode cX10_setMilk 8 = .ok (.bipush 6, 2) := by decide +kernel
theorem dX10_setMilk_10 : decode cX10_setMilk 10 = .ok (.iconst (-1), 1) := by decide +kernel
theorem dX10_setMilk_11 : decode cX10_setMilk 11 = .ok (.iload_n 1, 1) := by decide +kernel
theorem dX10_setMilk_12 : decode cX10_setMilk 12 = .ok (.invokevirtual 273, 3) := by decide +kernel
theorem dX10_setMilk_15 : decode cX10_setMilk 15 = .ok (.ireturn, 1) := by decide +kernel
theorem dX10_undo_0 : decode cX10_undo 0 = .ok (.aload_n 0, 1) := by decide +kernel
theorem dX10_undo_1 : decode cX10_undo 1 = .ok (.getfield 81, 3) := by decide +kernel
theorem dX10_undo_4 : decode cX10_undo 4 = .ok (.ifCond .ne 14, 3) := by decide +kernel
theorem dX10_undo_7 : decode cX10_undo 7 = .ok (.new 277, 3) := by decide +kernel
theorem dX10_undo_10 : decode cX10_undo 10 = .ok (.dup, 1) := by decide +kernel
theorem dX10_undo_11 : decode cX10_undo 11 = .ok (.ldc_w 279, 3) := by decide +kernel
theorem dX10_undo_14 : decode cX10_undo 14 = .ok (.invokespecial 281, 3) := by decide +kernel
theorem dX10_undo_17 : decode cX10_undo 17 = .ok (.athrow, 1) := by decide +kernel
theorem dX10_undo_18 : decode cX10_undo 18 = .ok (.aload_n 0, 1) := by decide +kernel
theorem dX10_undo_19 : decode cX10_undo 19 = .ok (.aload_n 0, 1) := by decide +kernel
theorem dX10_undo_20 : decode cX10_undo 20 = .ok (.getfield 283, 3) := by decide +kernel
theorem dX10_undo_23 : decode cX10_undo 23 = .ok (.iconst 1, 1) := by decide +kernel
theorem dX10_undo_24 : decode cX10_undo 24 = .ok (.isub, 1) := by decide +kernel
theorem dX10_undo_25 : decode cX10_undo 25 = .ok (.bipush 8, 2) := by decide +kernel
theorem dX10_undo_27 : decode cX10_undo 27 = .ok (.invokestatic 286, 3) := by decide +kernel
theorem dX10_undo_30 : decode cX10_undo 30 = .ok (.putfield 283, 3) := by decide +kernel
theorem dX10_undo_33 : decode cX10_undo 33 = .ok (.aload_n 0, 1) := by decide +kernel
theorem dX10_undo_34 : decode cX10_undo 34 = .ok (.getfield 26, 3) := by decide +kernel
theorem dX10_undo_37 : decode cX10_undo 37 = .ok (.aload_n 0, 1) := by decide +kernel
theorem dX10_undo_38 : decode cX10_undo 38 = .ok (.getfield 39, 3) := by decide +kernel
theorem dX10_undo_41 : decode cX10_undo 41 = .ok (.aload_n 0, 1) := by decide +kernel
theorem dX10_undo_42 : decode cX10_undo 42 = .ok (.getfield 283, 3) := by decide +kernel
theorem dX10_undo_45 : decode cX10_undo 45 = .ok (.aaload, 1) := by decide +kernel
theorem dX10_undo_46 : decode cX10_undo 46 = .ok (.invokevirtual 73, 3) := by decide +kernel
theorem dX10_undo_49 : decode cX10_undo 49 = .ok (.aload_n 0, 1) := by decide +kernel
theorem dX10_undo_50 : decode cX10_undo 50 = .ok (.dup, 1) := by decide +kernel
theorem dX10_undo_51 : decode cX10_undo 51 = .ok (.getfield 81, 3) := by decide +kernel
theorem dX10_undo_54 : decode cX10_undo 54 = .ok (.iconst 1, 1) := by decide +kernel
theorem dX10_undo_55 : decode cX10_undo 55 = .ok (.isub, 1) := by decide +kernel
theorem dX10_undo_56 : decode cX10_undo 56 = .ok (.putfield 81, 3) := by decide +kernel
theorem dX10_undo_59 : decode cX10_undo 59 = .ok (.aload_n 0, 1) := by decide +kernel
theorem dX10_undo_60 : decode cX10_undo 60 = .ok (.getfield 81, 3) := by decide +kernel
theorem dX10_undo_63 : decode cX10_undo 63 = .ok (.ireturn, 1) := by decide +kernel
theorem dX10_writeSacks_0 : decode cX10_writeSacks 0 = .ok (.aload_n 0, 1) := by decide +kernel
theorem dX10_writeSacks_1 : decode cX10_writeSacks 1 = .ok (.getfield 19, 3) := by decide +kernel
theorem dX10_writeSacks_4 : decode cX10_writeSacks 4 = .ok (.iconst 0, 1) := by decide +kernel
theorem dX10_writeSacks_5 : decode cX10_writeSacks 5 = .ok (.putfield 291, 3) := by decide +kernel
theorem dX10_writeSacks_8 : decode cX10_writeSacks 8 = .ok (.iconst 0, 1) := by decide +kernel
theorem dX10_writeSacks_9 : decode cX10_writeSacks 9 = .ok (.istore_n 1, 1) := by decide +kernel
theorem dX10_writeSacks_10 : decode cX10_writeSacks 10 = .ok (.iload_n 1, 1) := by decide +kernel
theorem dX10_writeSacks_11 : decode cX10_writeSacks 11 = .ok (.aload_n 0, 1) := by decide +kernel
theorem dX10_writeSacks_12 : decode cX10_writeSacks 12 = .ok (.getfield 26, 3) := by decide +kernel
theorem dX10_writeSacks_15 : decode cX10_writeSacks 15 = .ok (.getfield 108, 3) := by decide +kernel
theorem dX10_writeSacks_18 : decode cX10_writeSacks 18 = .ok (.if_icmp .ge 38, 3) := by decide +kernel
theorem dX10_writeSacks_21 : decode cX10_writeSacks 21 = .ok (.iload_n 1, 1) := by decide +kernel
theorem dX10_writeSacks_22 : decode cX10_writeSacks 22 = .ok (.ifCond .le 12, 3) := by decide +kernel
theorem dX10_writeSacks_25 : decode cX10_writeSacks 25 = .ok (.aload_n 0, 1) := by decide +kernel
theorem dX10_writeSacks_26 : decode cX10_writeSacks 26 = .ok (.getfield 19, 3) := by decide +kernel
theorem dX10_writeSacks_29 : decode cX10_writeSacks 29 = .ok (.bipush 32, 2) := by decide +kernel
theorem dX10_writeSacks_31 : decode cX10_writeSacks 31 = .ok (.invokevirtual 292, 3) := by decide +kernel
theorem dX10_writeSacks_34 : decode cX10_writeSacks 34 = .ok (.aload_n 0, 1) := by decide +kernel
theorem dX10_writeSacks_35 : decode cX10_writeSacks 35 = .ok (.getfield 19, 3) := by decide +kernel
theorem dX10_writeSacks_38 : decode cX10_writeSacks 38 = .ok (.aload_n 0, 1) := by decide +kernel
theorem dX10_writeSacks_39 : decode cX10_writeSacks 39 = .ok (.getfield 26, 3) := by decide +kernel
theorem dX10_writeSacks_42 : decode cX10_writeSacks 42 = .ok (.getfield 225, 3) := by decide +kernel
theorem dX10_writeSacks_45 : decode cX10_writeSacks 45 = .ok (.iload_n 1, 1) := by decide +kernel
theorem dX10_writeSacks_46 : decode cX10_writeSacks 46 = .ok (.aaload, 1) := by decide +kernel
theorem dX10_writeSacks_47 : decode cX10_writeSacks 47 = .ok (.invokevirtual 295, 3) := by decide +kernel
theorem dX10_writeSacks_50 : decode cX10_writeSacks 50 = .ok (.iinc 1 1, 3) := by decide +kernel
theorem dX10_writeSacks_53 : decode cX10_writeSacks 53 = .ok (.goto (-43), 3) := by decide +kernel
theorem dX10_writeSacks_56 : decode cX10_writeSacks 56 = .ok (.aload_n 0, 1) := by decide +kernel
theorem dX10_writeSacks_57 : decode cX10_writeSacks 57 = .ok (.getfield 19, 3) := by decide +kernel
theorem dX10_writeSacks_60 : decode cX10_writeSacks 60 = .ok (.getfield 291, 3) := by decide +kernel
theorem dX10_writeSacks_63 : decode cX10_writeSacks 63 = .ok (.ireturn, 1) := by decide +kernel
theorem dX10_outputByte_0 : decode cX10_outputByte 0 = .ok (.iload_n 1, 1) := by decide +kernel
theorem dX10_outputByte_1 : decode cX10_outputByte 1 = .ok (.ifCond .lt 26, 3) := by decide +kernel
theorem dX10_outputByte_4 : decode cX10_outputByte 4 = .ok (.iload_n 1, 1) := by decide +kernel
theorem dX10_outputByte_5 : decode cX10_outputByte 5 = .ok (.aload_n 0, 1) := by decide +kernel
theorem dX10_outputByte_6 : decode cX10_outputByte 6 = .ok (.getfield 19, 3) := by decide +kernel
theorem dX10_outputByte_9 : decode cX10_outputByte 9 = .ok (.getfield 291, 3) := by decide +kernel
theorem dX10_outputByte_12 : decode cX10_outputByte 12 = .ok (.if_icmp .ge 15, 3) := by decide +kernel
theorem dX10_outputByte_15 : decode cX10_outputByte 15 = .ok (.aload_n 0, 1) := by decide +kernel
theorem dX10_outputByte_16 : decode cX10_outputByte 16 = .ok (.getfield 19, 3) := by decide +kernel
theorem dX10_outputByte_19 : decode cX10_outputByte 19 = .ok (.getfield 299, 3) := by decide +kernel
theorem dX10_outputByte_22 : decode cX10_outputByte 22 = .ok (.iload_n 1, 1) := by decide +kernel
theorem dX10_outputByte_23 : decode cX10_outputByte 23 = .ok (.baload, 1) := by decide +kernel
theorem dX10_outputByte_24 : decode cX10_outputByte 24 = .ok (.goto 4, 3) := by decide +kernel
theorem dX10_outputByte_27 : decode cX10_outputByte 27 = .ok (.iconst (-1), 1) := by decide +kernel
theorem dX10_outputByte_28 : decode cX10_outputByte 28 = .ok (.ireturn, 1) := by decide +kernel
theorem dX10_saveState_0 : decode cX10_saveState 0 = .ok (.aload_n 0, 1) := by decide +kernel
theorem dX10_saveState_1 : decode cX10_saveState 1 = .ok (.getfield 36, 3) := by decide +kernel
theorem dX10_saveState_4 : decode cX10_saveState 4 = .ok (.aload_n 0, 1) := by decide +kernel
theorem dX10_saveState_5 : decode cX10_saveState 5 = .ok (.getfield 26, 3) := by decide +kernel
theorem dX10_saveState_8 : decode cX10_saveState 8 = .ok (.invokevirtual 73, 3) := by decide +kernel
theorem dX10_saveState_11 : decode cX10_saveState 11 = .ok (.aload_n 0, 1) := by decide +kernel
theorem dX10_saveState_12 : decode cX10_saveState 12 = .ok (.iconst 1, 1) := by decide +kernel
theorem dX10_saveState_13 : decode cX10_saveState 13 = .ok (.putfield 84, 3) := by decide +kernel
theorem dX10_saveState_16 : decode cX10_saveState 16 = .ok (.aload_n 0, 1) := by decide +kernel
theorem dX10_saveState_17 : decode cX10_saveState 17 = .ok (.getfield 26, 3) := by decide +kernel
theorem dX10_saveState_20 : decode cX10_saveState 20 = .ok (.getfield 105, 3) := by decide +kernel
theorem dX10_saveState_23 : decode cX10_saveState 23 = .ok (.ireturn, 1) := by decide +kernel
theorem dX10_restoreState_0 : decode cX10_restoreState 0 = .ok (.aload_n 0, 1) := by decide +kernel
theorem dX10_restoreState_1 : decode cX10_restoreState 1 = .ok (.getfield 84, 3) := by decide +kernel
theorem dX10_restoreState_4 : decode cX10_restoreState 4 = .ok (.ifCond .ne 14, 3) := by decide +kernel
theorem dX10_restoreState_7 : decode cX10_restoreState 7 = .ok (.new 277, 3) := by decide +kernel
theorem dX10_restoreState_10 : decode cX10_restoreState 10 = .ok (.dup, 1) := by decide +kernel
theorem dX10_restoreState_11 : decode cX10_restoreState 11 = .ok (.ldc_w 303, 3) := by decide +kernel
theorem dX10_restoreState_14 : decode cX10_restoreState 14 = .ok (.invokespecial 281, 3) := by decide +kernel
theorem dX10_restoreState_17 : decode cX10_restoreState 17 = .ok (.athrow, 1) := by decide +kernel
theorem dX10_restoreState_18 : decode cX10_restoreState 18 = .ok (.aload_n 0, 1) := by decide +kernel
theorem dX10_restoreState_19 : decode cX10_restoreState 19 = .ok (.getfield 26, 3) := by decide +kernel
theorem dX10_restoreState_22 : decode cX10_restoreState 22 = .ok (.aload_n 0, 1) := by decide +kernel
theorem dX10_restoreState_23 : decode cX10_restoreState 23 = .ok (.getfield 36, 3) := by decide +kernel
theorem dX10_restoreState_26 : decode cX10_restoreState 26 = .ok (.invokevirtual 73, 3) := by decide +kernel
theorem dX10_restoreState_29 : decode cX10_restoreState 29 = .ok (.aload_n 0, 1) := by decide +kernel
theorem dX10_restoreState_30 : decode cX10_restoreState 30 = .ok (.iconst 0, 1) := by decide +kernel
theorem dX10_restoreState_31 : decode cX10_restoreState 31 = .ok (.putfield 81, 3) := by decide +kernel
theorem dX10_restoreState_34 : decode cX10_restoreState 34 = .ok (.aload_n 0, 1) := by decide +kernel
theorem dX10_restoreState_35 : decode cX10_restoreState 35 = .ok (.getfield 26, 3) := by decide +kernel
theorem dX10_restoreState_38 : decode cX10_restoreState 38 = .ok (.getfield 105, 3) := by decide +kernel
theorem dX10_restoreState_41 : decode cX10_restoreState 41 = .ok (.ireturn, 1) := by decide +kernel
theorem dX10_catAt_0 : decode cX10_catAt 0 = .ok (.iload_n 1, 1) := by decide +kernel
theorem dX10_catAt_1 : decode cX10_catAt 1 = .ok (.ifCond .lt 14, 3) := by decide +kernel
theorem dX10_catAt_4 : decode cX10_catAt 4 = .ok (.iload_n 1, 1) := by decide +kernel
theorem dX10_catAt_5 : decode cX10_catAt 5 = .ok (.aload_n 0, 1) := by decide +kernel
theorem dX10_catAt_6 : decode cX10_catAt 6 = .ok (.getfield 26, 3) := by decide +kernel
theorem dX10_catAt_9 : decode cX10_catAt 9 = .ok (.getfield 88, 3) := by decide +kernel
theorem dX10_catAt_12 : decode cX10_catAt 12 = .ok (.if_icmp .lt 14, 3) := by decide +kernel
theorem dX10_catAt_15 : decode cX10_catAt 15 = .ok (.new 305, 3) := by decide +kernel
theorem dX10_catAt_18 : decode cX10_catAt 18 = .ok (.dup, 1) := by decide +kernel
theorem dX10_catAt_19 : decode cX10_catAt 19 = .ok (.ldc_w 307, 3) := by decide +kernel
theorem dX10_catAt_22 : decode cX10_catAt 22 = .ok (.invokespecial 309, 3) := by decide +kernel
theorem dX10_catAt_25 : decode cX10_catAt 25 = .ok (.athrow, 1) := by decide +kernel
theorem dX10_catAt_26 : decode cX10_catAt 26 = .ok (.aload_n 0, 1) := by decide +kernel
theorem dX10_catAt_27 : decode cX10_catAt 27 = .ok (.getfield 26, 3) := by decide +kernel
theorem dX10_catAt_30 : decode cX10_catAt 30 = .ok (.getfield 266, 3) := by decide +kernel
theorem dX10_catAt_33 : decode cX10_catAt 33 = .ok (.iload_n 1, 1) := by decide +kernel
theorem dX10_catAt_34 : decode cX10_catAt 34 = .ok (.aaload, 1) := by decide +kernel
theorem dX10_catAt_35 : decode cX10_catAt 35 = .ok (.areturn, 1) := by decide +kernel
theorem dX10_sackAt_0 : decode cX10_sackAt 0 = .ok (.iload_n 1, 1) := by decide +kernel
theorem dX10_sackAt_1 : decode cX10_sackAt 1 = .ok (.ifCond .lt 14, 3) := by decide +kernel
theorem dX10_sackAt_4 : decode cX10_sackAt 4 = .ok (.iload_n 1, 1) := by decide +kernel
theorem dX10_sackAt_5 : decode cX10_sackAt 5 = .ok (.aload_n 0, 1) := by decide +kernel
theorem dX10_sackAt_6 : decode cX10_sackAt 6 = .ok (.getfield 26, 3) := by decide +kernel
theorem dX10_sackAt_9 : decode cX10_sackAt 9 = .ok (.getfield 108, 3) := by decide +kernel
theorem dX10_sackAt_12 : decode cX10_sackAt 12 = .ok (.if_icmp .lt 14, 3) := by decide +kernel
theorem dX10_sackAt_15 : decode cX10_sackAt 15 = .ok (.new 305, 3) := by decide +kernel
theorem dX10_sackAt_18 : decode cX10_sackAt 18 = .ok (.dup, 1) := by decide +kernel
theorem dX10_sackAt_19 : decode cX10_sackAt 19 = .ok (.ldc_w 310, 3) := by decide +kernel
theorem dX10_sackAt_22 : decode cX10_sackAt 22 = .ok (.invokespecial 309, 3) := by decide +kernel
theorem dX10_sackAt_25 : decode cX10_sackAt 25 = .ok (.athrow, 1) := by decide +kernel
theorem dX10_sackAt_26 : decode cX10_sackAt 26 = .ok (.aload_n 0, 1) := by decide +kernel
theorem dX10_sackAt_27 : decode cX10_sackAt 27 = .ok (.getfield 26, 3) := by decide +kernel
theorem dX10_sackAt_30 : decode cX10_sackAt 30 = .ok (.getfield 225, 3) := by decide +kernel
theorem dX10_sackAt_33 : decode cX10_sackAt 33 = .ok (.iload_n 1, 1) := by decide +kernel
theorem dX10_sackAt_34 : decode cX10_sackAt 34 = .ok (.aaload, 1) := by decide +kernel
theorem dX10_sackAt_35 : decode cX10_sackAt 35 = .ok (.areturn, 1) := by decide +kernel
theorem dX10_shiftAt_0 : decode cX10_shiftAt 0 = .ok (.iload_n 1, 1) := by decide +kernel
theorem dX10_shiftAt_1 : decode cX10_shiftAt 1 = .ok (.ifCond .lt 14, 3) := by decide +kernel
theorem dX10_shiftAt_4 : decode cX10_shiftAt 4 = .ok (.iload_n 1, 1) := by decide +kernel
theorem dX10_shiftAt_5 : decode cX10_shiftAt 5 = .ok (.aload_n 0, 1) := by decide +kernel
theorem dX10_shiftAt_6 : decode cX10_shiftAt 6 = .ok (.getfield 26, 3) := by decide +kernel
theorem dX10_shiftAt_9 : decode cX10_shiftAt 9 = .ok (.getfield 111, 3) := by decide +kernel
theorem dX10_shiftAt_12 : decode cX10_shiftAt 12 = .ok (.if_icmp .lt 14, 3) := by decide +kernel
theorem dX10_shiftAt_15 : decode cX10_shiftAt 15 = .ok (.new 305, 3) := by decide +kernel
theorem dX10_shiftAt_18 : decode cX10_shiftAt 18 = .ok (.dup, 1) := by decide +kernel
theorem dX10_shiftAt_19 : decode cX10_shiftAt 19 = .ok (.ldc_w 312, 3) := by decide +kernel
theorem dX10_shiftAt_22 : decode cX10_shiftAt 22 = .ok (.invokespecial 309, 3) := by decide +kernel
theorem dX10_shiftAt_25 : decode cX10_shiftAt 25 = .ok (.athrow, 1) := by decide +kernel
theorem dX10_shiftAt_26 : decode cX10_shiftAt 26 = .ok (.aload_n 0, 1) := by decide +kernel
theorem dX10_shiftAt_27 : decode cX10_shiftAt 27 = .ok (.getfield 26, 3) := by decide +kernel
theorem dX10_shiftAt_30 : decode cX10_shiftAt 30 = .ok (.getfield 314, 3) := by decide +kernel
theorem dX10_shiftAt_33 : decode cX10_shiftAt 33 = .ok (.iload_n 1, 1) := by decide +kernel
theorem dX10_shiftAt_34 : decode cX10_shiftAt 34 = .ok (.aaload, 1) := by decide +kernel
theorem dX10_shiftAt_35 : decode cX10_shiftAt 35 = .ok (.areturn, 1) := by decide +kernel
theorem dX10_requireRange_0 : decode cX10_requireRange 0 = .ok (.iload_n 0, 1) := by decide +kernel
theorem dX10_requireRange_1 : decode cX10_requireRange 1 = .ok (.iload_n 1, 1) := by decide +kernel
theorem dX10_requireRange_2 : decode cX10_requireRange 2 = .ok (.if_icmp .lt 8, 3) := by decide +kernel
theorem dX10_requireRange_5 : decode cX10_requireRange 5 = .ok (.iload_n 0, 1) := by decide +kernel
theorem dX10_requireRange_6 : decode cX10_requireRange 6 = .ok (.iload_n 2, 1) := by decide +kernel
theorem dX10_requireRange_7 : decode cX10_requireRange 7 = .ok (.if_icmp .le 14, 3) := by decide +kernel
theorem dX10_requireRange_10 : decode cX10_requireRange 10 = .ok (.new 318, 3) := by decide +kernel
theorem dX10_requireRange_13 : decode cX10_requireRange 13 = .ok (.dup, 1) := by decide +kernel
theorem dX10_requireRange_14 : decode cX10_requireRange 14 = .ok (.ldc_w 320, 3) := by decide +kernel
theorem dX10_requireRange_17 : decode cX10_requireRange 17 = .ok (.invokespecial 322, 3) := by decide +kernel
theorem dX10_requireRange_20 : decode cX10_requireRange 20 = .ok (.athrow, 1) := by decide +kernel
theorem dX10_requireRange_21 : decode cX10_requireRange 21 = .ok (.return_, 1) := by decide +kernel
theorem dX10_letterOf_0 : decode cX10_letterOf 0 = .ok (.iload_n 1, 1) := by decide +kernel
theorem dX10_letterOf_1 : decode cX10_letterOf 1 = .ok (.ifCond .lt 19, 3) := by decide +kernel
theorem dX10_letterOf_4 : decode cX10_letterOf 4 = .ok (.iload_n 1, 1) := by decide +kernel
theorem dX10_letterOf_5 : decode cX10_letterOf 5 = .ok (.aload_n 0, 1) := by decide +kernel
theorem dX10_letterOf_6 : decode cX10_letterOf 6 = .ok (.invokevirtual 323, 3) := by decide +kernel
theorem dX10_letterOf_9 : decode cX10_letterOf 9 = .ok (.if_icmp .ge 11, 3) := by decide +kernel
theorem dX10_letterOf_12 : decode cX10_letterOf 12 = .ok (.aload_n 0, 1) := by decide +kernel
theorem dX10_letterOf_13 : decode cX10_letterOf 13 = .ok (.iload_n 1, 1) := by decide +kernel
theorem dX10_letterOf_14 : decode cX10_letterOf 14 = .ok (.invokevirtual 327, 3) := by decide +kernel
theorem dX10_letterOf_17 : decode cX10_letterOf 17 = .ok (.goto 4, 3) := by decide +kernel
theorem dX10_letterOf_20 : decode cX10_letterOf 20 = .ok (.iconst (-1), 1) := by decide +kernel
theorem dX10_letterOf_21 : decode cX10_letterOf 21 = .ok (.ireturn, 1) := by decide +kernel
theorem dX10_predict_0 : decode cX10_predict 0 = .ok (.iload_n 1, 1) := by decide +kernel
theorem dX10_predict_1 : decode cX10_predict 1 = .ok (.iconst 0, 1) := by decide +kernel
theorem dX10_predict_2 : decode cX10_predict 2 = .ok (.sipush 200, 3) := by decide +kernel
theorem dX10_predict_5 : decode cX10_predict 5 = .ok (.invokestatic 269, 3) := by decide +kernel
theorem dX10_predict_8 : decode cX10_predict 8 = .ok (.aload_n 0, 1) := by decide +kernel
theorem dX10_predict_9 : decode cX10_predict 9 = .ok (.getfield 33, 3) := by decide +kernel
theorem dX10_predict_12 : decode cX10_predict 12 = .ok (.aload_n 0, 1) := by decide +kernel
theorem dX10_predict_13 : decode cX10_predict 13 = .ok (.getfield 26, 3) := by decide +kernel
theorem dX10_predict_16 : decode cX10_predict 16 = .ok (.invokevirtual 73, 3) := by decide +kernel
theorem dX10_predict_19 : decode cX10_predict 19 = .ok (.aload_n 0, 1) := by decide +kernel
theorem dX10_predict_20 : decode cX10_predict 20 = .ok (.getfield 33, 3) := by decide +kernel
theorem dX10_predict_23 : decode cX10_predict 23 = .ok (.iload_n 1, 1) := by decide +kernel
theorem dX10_predict_24 : decode cX10_predict 24 = .ok (.invokevirtual 331, 3) := by decide +kernel
theorem dX10_predict_27 : decode cX10_predict 27 = .ok (.pop, 1) := by decide +kernel
theorem dX10_predict_28 : decode cX10_predict 28 = .ok (.return_, 1) := by decide +kernel
theorem dX10_grainWithFlapChanged_0 : decode cX10_grainWithFlapChanged 0 = .ok (.aload_n 0, 1) := by decide +kernel
theorem dX10_grainWithFlapChanged_1 : decode cX10_grainWithFlapChanged 1 = .ok (.getfield 33, 3) := by decide +kernel
theorem dX10_grainWithFlapChanged_4 : decode cX10_grainWithFlapChanged 4 = .ok (.aload_n 0, 1) := by decide +kernel
theorem dX10_grainWithFlapChanged_5 : decode cX10_grainWithFlapChanged 5 = .ok (.getfield 26, 3) := by decide +kernel
theorem dX10_grainWithFlapChanged_8 : decode cX10_grainWithFlapChanged 8 = .ok (.invokevirtual 73, 3) := by decide +kernel
theorem dX10_grainWithFlapChanged_11 : decode cX10_grainWithFlapChanged 11 = .ok (.aload_n 0, 1) := by decide +kernel
theorem dX10_grainWithFlapChanged_12 : decode cX10_grainWithFlapChanged 12 = .ok (.getfield 33, 3) := by decide +kernel
theorem dX10_grainWithFlapChanged_15 : decode cX10_grainWithFlapChanged 15 = .ok (.getfield 225, 3) := by decide +kernel
theorem dX10_grainWithFlapChanged_18 : decode cX10_grainWithFlapChanged 18 = .ok (.iload_n 1, 1) := by decide +kernel
theorem dX10_grainWithFlapChanged_19 : decode cX10_grainWithFlapChanged 19 = .ok (.aaload, 1) := by decide +kernel
theorem dX10_grainWithFlapChanged_20 : decode cX10_grainWithFlapChanged 20 = .ok (.aload_n 0, 1) := by decide +kernel
theorem dX10_grainWithFlapChanged_21 : decode cX10_grainWithFlapChanged 21 = .ok (.getfield 33, 3) := by decide +kernel
theorem dX10_grainWithFlapChanged_24 : decode cX10_grainWithFlapChanged 24 = .ok (.getfield 225, 3) := by decide +kernel
theorem dX10_grainWithFlapChanged_27 : decode cX10_grainWithFlapChanged 27 = .ok (.iload_n 1, 1) := by decide +kernel
theorem dX10_grainWithFlapChanged_28 : decode cX10_grainWithFlapChanged 28 = .ok (.aaload, 1) := by decide +kernel
theorem dX10_grainWithFlapChanged_29 : decode cX10_grainWithFlapChanged 29 = .ok (.getfield 159, 3) := by decide +kernel
theorem dX10_grainWithFlapChanged_32 : decode cX10_grainWithFlapChanged 32 = .ok (.ifCond .ne 7, 3) := by decide +kernel
theorem dX10_grainWithFlapChanged_35 : decode cX10_grainWithFlapChanged 35 = .ok (.iconst 1, 1) := by decide +kernel
theorem dX10_grainWithFlapChanged_36 : decode cX10_grainWithFlapChanged 36 = .ok (.goto 4, 3) := by decide +kernel
theorem dX10_grainWithFlapChanged_39 : decode cX10_grainWithFlapChanged 39 = .ok (.iconst 0, 1) := by decide +kernel
theorem dX10_grainWithFlapChanged_40 : decode cX10_grainWithFlapChanged 40 = .ok (.putfield 159, 3) := by decide +kernel
theorem dX10_grainWithFlapChanged_43 : decode cX10_grainWithFlapChanged 43 = .ok (.aload_n 0, 1) := by decide +kernel
theorem dX10_grainWithFlapChanged_44 : decode cX10_grainWithFlapChanged 44 = .ok (.getfield 33, 3) := by decide +kernel
theorem dX10_grainWithFlapChanged_47 : decode cX10_grainWithFlapChanged 47 = .ok (.iload_n 2, 1) := by decide +kernel
theorem dX10_grainWithFlapChanged_48 : decode cX10_grainWithFlapChanged 48 = .ok (.invokevirtual 331, 3) := by decide +kernel
theorem dX10_grainWithFlapChanged_51 : decode cX10_grainWithFlapChanged 51 = .ok (.pop, 1) := by decide +kernel
theorem dX10_grainWithFlapChanged_52 : decode cX10_grainWithFlapChanged 52 = .ok (.aload_n 0, 1) := by decide +kernel
theorem dX10_grainWithFlapChanged_53 : decode cX10_grainWithFlapChanged 53 = .ok (.getfield 33, 3) := by decide +kernel
theorem dX10_grainWithFlapChanged_56 : decode cX10_grainWithFlapChanged 56 = .ok (.invokevirtual 239, 3) := by decide +kernel
theorem dX10_grainWithFlapChanged_59 : decode cX10_grainWithFlapChanged 59 = .ok (.ireturn, 1) := by decide +kernel
theorem dX10_change_0 : decode cX10_change 0 = .ok (.aload_n 0, 1) := by decide +kernel
theorem dX10_change_1 : decode cX10_change 1 = .ok (.getfield 26, 3) := by decide +kernel
theorem dX10_change_4 : decode cX10_change 4 = .ok (.iload_n 1, 1) := by decide +kernel
theorem dX10_change_5 : decode cX10_change 5 = .ok (.iload_n 2, 1) := by decide +kernel
theorem dX10_change_6 : decode cX10_change 6 = .ok (.iload_n 3, 1) := by decide +kernel
theorem dX10_change_7 : decode cX10_change 7 = .ok (.invokevirtual 334, 3) := by decide +kernel
theorem dX10_change_10 : decode cX10_change 10 = .ok (.ifCond .ne 14, 3) := by decide +kernel
theorem dX10_change_13 : decode cX10_change 13 = .ok (.new 338, 3) := by decide +kernel
theorem dX10_change_16 : decode cX10_change 16 = .ok (.dup, 1) := by decide +kernel
theorem dX10_change_17 : decode cX10_change 17 = .ok (.ldc_w 340, 3) := by decide +kernel
theorem dX10_change_20 : decode cX10_change 20 = .ok (.invokespecial 342, 3) := by decide +kernel
theorem dX10_change_23 : decode cX10_change 23 = .ok (.athrow, 1) := by decide +kernel
theorem dX10_change_24 : decode cX10_change 24 = .ok (.aload_n 0, 1) := by decide +kernel
theorem dX10_change_25 : decode cX10_change 25 = .ok (.invokevirtual 92, 3) := by decide +kernel
theorem dX10_change_28 : decode cX10_change 28 = .ok (.aload_n 0, 1) := by decide +kernel
theorem dX10_change_29 : decode cX10_change 29 = .ok (.getfield 26, 3) := by decide +kernel
theorem dX10_change_32 : decode cX10_change 32 = .ok (.iload_n 1, 1) := by decide +kernel
theorem dX10_change_33 : decode cX10_change 33 = .ok (.iload_n 2, 1) := by decide +kernel
theorem dX10_change_34 : decode cX10_change 34 = .ok (.iload_n 3, 1) := by decide +kernel
theorem dX10_change_35 : decode cX10_change 35 = .ok (.invokevirtual 343, 3) := by decide +kernel
theorem dX10_change_38 : decode cX10_change 38 = .ok (.ireturn, 1) := by decide +kernel
theorem dX10_remember_0 : decode cX10_remember 0 = .ok (.aload_n 0, 1) := by decide +kernel
theorem dX10_remember_1 : decode cX10_remember 1 = .ok (.getfield 39, 3) := by decide +kernel
theorem dX10_remember_4 : decode cX10_remember 4 = .ok (.aload_n 0, 1) := by decide +kernel
theorem dX10_remember_5 : decode cX10_remember 5 = .ok (.getfield 283, 3) := by decide +kernel
theorem dX10_remember_8 : decode cX10_remember 8 = .ok (.aaload, 1) := by decide +kernel
theorem dX10_remember_9 : decode cX10_remember 9 = .ok (.aload_n 0, 1) := by decide +kernel
theorem dX10_remember_10 : decode cX10_remember 10 = .ok (.getfield 26, 3) := by decide +kernel
theorem dX10_remember_13 : decode cX10_remember 13 = .ok (.invokevirtual 73, 3) := by decide +kernel
theorem dX10_remember_16 : decode cX10_remember 16 = .ok (.aload_n 0, 1) := by decide +kernel
theorem dX10_remember_17 : decode cX10_remember 17 = .ok (.aload_n 0, 1) := by decide +kernel
theorem dX10_remember_18 : decode cX10_remember 18 = .ok (.getfield 283, 3) := by decide +kernel
theorem dX10_remember_21 : decode cX10_remember 21 = .ok (.iconst 1, 1) := by decide +kernel
theorem dX10_remember_22 : decode cX10_remember 22 = .ok (.iadd, 1) := by decide +kernel
theorem dX10_remember_23 : decode cX10_remember 23 = .ok (.bipush 8, 2) := by decide +kernel
theorem dX10_remember_25 : decode cX10_remember 25 = .ok (.irem, 1) := by decide +kernel
theorem dX10_remember_26 : decode cX10_remember 26 = .ok (.putfield 283, 3) := by decide +kernel
theorem dX10_remember_29 : decode cX10_remember 29 = .ok (.aload_n 0, 1) := by decide +kernel
theorem dX10_remember_30 : decode cX10_remember 30 = .ok (.aload_n 0, 1) := by decide +kernel
theorem dX10_remember_31 : decode cX10_remember 31 = .ok (.getfield 81, 3) := by decide +kernel
theorem dX10_remember_34 : decode cX10_remember 34 = .ok (.iconst 1, 1) := by decide +kernel
theorem dX10_remember_35 : decode cX10_remember 35 = .ok (.iadd, 1) := by decide +kernel
theorem dX10_remember_36 : decode cX10_remember 36 = .ok (.bipush 8, 2) := by decide +kernel
theorem dX10_remember_38 : decode cX10_remember 38 = .ok (.invokestatic 346, 3) := by decide +kernel
theorem dX10_remember_41 : decode cX10_remember 41 = .ok (.putfield 81, 3) := by decide +kernel
theorem dX10_remember_44 : decode cX10_remember 44 = .ok (.return_, 1) := by decide +kernel
theorem dX11_init_0 : decode cX11_init 0 = .ok (.aload_n 0, 1) := by decide +kernel
theorem dX11_init_1 : decode cX11_init 1 = .ok (.invokespecial 1, 3) := by decide +kernel
theorem dX11_init_4 : decode cX11_init 4 = .ok (.aload_n 0, 1) := by decide +kernel
theorem dX11_init_5 : decode cX11_init 5 = .ok (.sipush 257, 3) := by decide +kernel
theorem dX11_init_8 : decode cX11_init 8 = .ok (.newarray .int, 2) := by decide +kernel
theorem dX11_init_10 : decode cX11_init 10 = .ok (.putfield 7, 3) := by decide +kernel
theorem dX11_init_13 : decode cX11_init 13 = .ok (.aload_n 0, 1) := by decide +kernel
theorem dX11_init_14 : decode cX11_init 14 = .ok (.sipush 257, 3) := by decide +kernel
theorem dX11_init_17 : decode cX11_init 17 = .ok (.newarray .int, 2) := by decide +kernel
theorem dX11_init_19 : decode cX11_init 19 = .ok (.putfield 13, 3) := by decide +kernel
theorem dX11_init_22 : decode cX11_init 22 = .ok (.aload_n 0, 1) := by decide +kernel
theorem dX11_init_23 : decode cX11_init 23 = .ok (.sipush 257, 3) := by decide +kernel
theorem dX11_init_26 : decode cX11_init 26 = .ok (.newarray .int, 2) := by decide +kernel
theorem dX11_init_28 : decode cX11_init 28 = .ok (.putfield 16, 3) := by decide +kernel
theorem dX11_init_31 : decode cX11_init 31 = .ok (.aload_n 0, 1) := by decide +kernel
theorem dX11_init_32 : decode cX11_init 32 = .ok (.sipush 257, 3) := by decide +kernel
theorem dX11_init_35 : decode cX11_init 35 = .ok (.newarray .int, 2) := by decide +kernel
theorem dX11_init_37 : decode cX11_init 37 = .ok (.putfield 19, 3) := by decide +kernel
theorem dX11_init_40 : decode cX11_init 40 = .ok (.aload_n 0, 1) := by decide +kernel
theorem dX11_init_41 : decode cX11_init 41 = .ok (.sipush 2056, 3) := by decide +kernel
theorem dX11_init_44 : decode cX11_init 44 = .ok (.newarray .int, 2) := by decide +kernel
theorem dX11_init_46 : decode cX11_init 46 = .ok (.putfield 22, 3) := by decide +kernel
theorem dX11_init_49 : decode cX11_init 49 = .ok (.aload_n 0, 1) := by decide +kernel
theorem dX11_init_50 : decode cX11_init 50 = .ok (.sipush 600, 3) := by decide +kernel
theorem dX11_init_53 : decode cX11_init 53 = .ok (.newarray .int, 2) := by decide +kernel
theorem dX11_init_55 : decode cX11_init 55 = .ok (.putfield 25, 3) := by decide +kernel
theorem dX11_init_58 : decode cX11_init 58 = .ok (.aload_n 0, 1) := by decide +kernel
theorem dX11_init_59 : decode cX11_init 59 = .ok (.iconst (-1), 1) := by decide +kernel
theorem dX11_init_60 : decode cX11_init 60 = .ok (.putfield 28, 3) := by decide +kernel
theorem dX11_init_63 : decode cX11_init 63 = .ok (.aload_n 0, 1) := by decide +kernel
theorem dX11_init_64 : decode cX11_init 64 = .ok (.iconst 4, 1) := by decide +kernel
theorem dX11_init_65 : decode cX11_init 65 = .ok (.newarray .int, 2) := by decide +kernel
theorem dX11_init_67 : decode cX11_init 67 = .ok (.putfield 32, 3) := by decide +kernel
theorem dX11_init_70 : decode cX11_init 70 = .ok (.aload_n 0, 1) := by decide +kernel
theorem dX11_init_71 : decode cX11_init 71 = .ok (.bipush 31, 2) := by decide +kernel
theorem dX11_init_73 : decode cX11_init 73 = .ok (.newarray .int, 2) := by decide +kernel
theorem dX11_init_75 : decode cX11_init 75 = .ok (.putfield 35, 3) := by decide +kernel
theorem dX11_init_78 : decode cX11_init 78 = .ok (.aload_n 0, 1) := by decide +kernel
theorem dX11_init_79 : decode cX11_init 79 = .ok (.bipush 62, 2) := by decide +kernel
theorem dX11_init_81 : decode cX11_init 81 = .ok (.newarray .int, 2) := by decide +kernel
theorem dX11_init_83 : decode cX11_init 83 = .ok (.putfield 38, 3) := by decide +kernel
theorem dX11_init_86 : decode cX11_init 86 = .ok (.aload_n 0, 1) := by decide +kernel
theorem dX11_init_87 : decode cX11_init 87 = .ok (.sipush 200, 3) := by decide +kernel
theorem dX11_init_90 : decode cX11_init 90 = .ok (.newarray .int, 2) := by decide +kernel
theorem dX11_init_92 : decode cX11_init 92 = .ok (.putfield 41, 3) := by decide +kernel
theorem dX11_init_95 : decode cX11_init 95 = .ok (.aload_n 0, 1) := by decide +kernel
theorem dX11_init_96 : decode cX11_init 96 = .ok (.invokevirtual 44, 3) := by decide +kernel
theorem dX11_init_99 : decode cX11_init 99 = .ok (.aload_n 0, 1) := by decide +kernel
theorem dX11_init_100 : decode cX11_init 100 = .ok (.bipush 65, 2) := by decide +kernel
theorem dX11_init_102 : decode cX11_init 102 = .ok (.bipush 116, 2) := by decide +kernel
theorem dX11_init_104 : decode cX11_init 104 = .ok (.bipush 111, 2) := by decide +kernel
theorem dX11_init_106 : decode cX11_init 106 = .ok (.bipush 109, 2) := by decide +kernel
theorem dX11_init_108 : decode cX11_init 108 = .ok (.iconst 0, 1) := by decide +kernel
theorem dX11_init_109 : decode cX11_init 109 = .ok (.invokevirtual 47, 3) := by decide +kernel
theorem dX11_init_112 : decode cX11_init 112 = .ok (.aload_n 0, 1) := by decide +kernel
theorem dX11_init_113 : decode cX11_init 113 = .ok (.iconst 3, 1) := by decide +kernel
theorem dX11_init_114 : decode cX11_init 114 = .ok (.iconst 5, 1) := by decide +kernel
theorem dX11_init_115 : decode cX11_init 115 = .ok (.iconst 1, 1) := by decide +kernel
theorem dX11_init_116 : decode cX11_init 116 = .ok (.invokevirtual 51, 3) := by decide +kernel
theorem dX11_init_119 : decode cX11_init 119 = .ok (.aload_n 0, 1) := by decide +kernel
theorem dX11_init_120 : decode cX11_init 120 = .ok (.bipush 77, 2) := by decide +kernel
theorem dX11_init_122 : decode cX11_init 122 = .ok (.bipush 112, 2) := by decide +kernel
theorem dX11_init_124 : decode cX11_init 124 = .ok (.bipush 117, 2) := by decide +kernel
theorem dX11_init_126 : decode cX11_init 126 = .ok (.bipush 115, 2) := by decide +kernel
theorem dX11_init_128 : decode cX11_init 128 = .ok (.bipush 115, 2) := by decide +kernel
theorem dX11_init_130 : decode cX11_init 130 = .ok (.invokevirtual 47, 3) := by decide +kernel
theorem dX11_init_133 : decode cX11_init 133 = .ok (.aload_n 0, 1) := by decide +kernel
theorem dX11_init_134 : decode cX11_init 134 = .ok (.iconst 4, 1) := by decide +kernel
theorem dX11_init_135 : decode cX11_init 135 = .ok (.iconst 3, 1) := by decide +kernel
theorem dX11_init_136 : decode cX11_init 136 = .ok (.iconst 0, 1) := by decide +kernel
theorem dX11_init_137 : decode cX11_init 137 = .ok (.invokevirtual 51, 3) := by decide +kernel
theorem dX11_init_140 : decode cX11_init 140 = .ok (.aload_n 0, 1) := by decide +kernel
theorem dX11_init_141 : decode cX11_init 141 = .ok (.bipush 89, 2) := by decide +kernel
theorem dX11_init_143 : decode cX11_init 143 = .ok (.bipush 109, 2) := by decide +kernel
theorem dX11_init_145 : decode cX11_init 145 = .ok (.bipush 111, 2) := by decide +kernel
theorem dX11_init_147 : decode cX11_init 147 = .ok (.bipush 115, 2) := by decide +kernel
theorem dX11_init_149 : decode cX11_init 149 = .ok (.bipush 115, 2) := by decide +kernel
theorem dX11_init_151 : decode cX11_init 151 = .ok (.invokevirtual 47, 3) := by decide +kernel
theorem dX11_init_154 : decode cX11_init 154 = .ok (.aload_n 0, 1) := by decide +kernel
theorem dX11_init_155 : decode cX11_init 155 = .ok (.iconst 4, 1) := by decide +kernel
theorem dX11_init_156 : decode cX11_init 156 = .ok (.bipush 7, 2) := by decide +kernel
theorem dX11_init_158 : decode cX11_init 158 = .ok (.iconst 0, 1) := by decide +kernel
theorem dX11_init_159 : decode cX11_init 159 = .ok (.invokevirtual 51, 3) := by decide +kernel
theorem dX11_init_162 : decode cX11_init 162 = .ok (.aload_n 0, 1) := by decide +kernel
theorem dX11_init_163 : decode cX11_init 163 = .ok (.sipush 161, 3) := by decide +kernel
theorem dX11_init_166 : decode cX11_init 166 = .ok (.bipush 114, 2) := by decide +kernel
theorem dX11_init_168 : decode cX11_init 168 = .ok (.bipush 121, 2) := by decide +kernel
theorem dX11_init_170 : decode cX11_init 170 = .ok (.bipush 101, 2) := by decide +kernel
theorem dX11_init_172 : decode cX11_init 172 = .ok (.iconst 0, 1) := by decide +kernel
theorem dX11_init_173 : decode cX11_init 173 = .ok (.invokevirtual 47, 3) := by decide +kernel
theorem dX11_init_176 : decode cX11_init 176 = .ok (.aload_n 0, 1) := by decide +kernel
theorem dX11_init_177 : decode cX11_init 177 = .ok (.iconst 3, 1) := by decide +kernel
theorem dX11_init_178 : decode cX11_init 178 = .ok (.bipush 60, 2) := by decide +kernel
theorem dX11_init_180 : decode cX11_init 180 = .ok (.iconst 4, 1) := by decide +kernel
theorem dX11_init_181 : decode cX11_init 181 = .ok (.iconst 1, 1) := by decide +kernel
theorem dX11_init_182 : decode cX11_init 182 = .ok (.invokevirtual 55, 3) := by decide +kernel
theorem dX11_init_185 : decode cX11_init 185 = .ok (.aload_n 0, 1) := by decide +kernel
theorem dX11_init_186 : decode cX11_init 186 = .ok (.sipush 173, 3) := by decide +kernel
theorem dX11_init_189 : decode cX11_init 189 = .ok (.bipush 111, 2) := by decide +kernel
theorem dX11_init_191 : decode cX11_init 191 = .ok (.bipush 97, 2) := by decide +kernel
theorem dX11_init_193 : decode cX11_init 193 = .ok (.bipush 116, 2) := by decide +kernel
theorem dX11_init_195 : decode cX11_init 195 = .ok (.bipush 115, 2) := by decide +kernel
theorem dX11_init_197 : decode cX11_init 197 = .ok (.invokevirtual 47, 3) := by decide +kernel
theorem dX11_init_200 : decode cX11_init 200 = .ok (.aload_n 0, 1) := by decide +kernel
theorem dX11_init_201 : decode cX11_init 201 = .ok (.iconst 4, 1) := by decide +kernel
theorem dX11_init_202 : decode cX11_init 202 = .ok (.bipush 30, 2) := by decide +kernel
theorem dX11_init_204 : decode cX11_init 204 = .ok (.bipush 9, 2) := by decide +kernel
theorem dX11_init_206 : decode cX11_init 206 = .ok (.iconst 0, 1) := by decide +kernel
theorem dX11_init_207 : decode cX11_init 207 = .ok (.invokevirtual 55, 3) := by decide +kernel
theorem dX11_init_210 : decode cX11_init 210 = .ok (.aload_n 0, 1) := by decide +kernel
theorem dX11_init_211 : decode cX11_init 211 = .ok (.sipush 185, 3) := by decide +kernel
theorem dX11_init_214 : decode cX11_init 214 = .ok (.bipush 112, 2) := by decide +kernel
theorem dX11_init_216 : decode cX11_init 216 = .ok (.bipush 101, 2) := by decide +kernel
theorem dX11_init_218 : decode cX11_init 218 = .ok (.bipush 97, 2) := by decide +kernel
theorem dX11_init_220 : decode cX11_init 220 = .ok (.bipush 115, 2) := by decide +kernel
theorem dX11_init_222 : decode cX11_init 222 = .ok (.invokevirtual 47, 3) := by decide +kernel
theorem dX11_init_225 : decode cX11_init 225 = .ok (.aload_n 0, 1) := by decide +kernel
theorem dX11_init_226 : decode cX11_init 226 = .ok (.iconst 4, 1) := by decide +kernel
theorem dX11_init_227 : decode cX11_init 227 = .ok (.bipush 8, 2) := by decide +kernel
theorem dX11_init_229 : decode cX11_init 229 = .ok (.iconst 2, 1) := by decide +kernel
theorem dX11_init_230 : decode cX11_init 230 = .ok (.iconst 1, 1) := by decide +kernel
theorem dX11_init_231 : decode cX11_init 231 = .ok (.invokevirtual 55, 3) := by decide +kernel
theorem dX11_init_234 : decode cX11_init 234 = .ok (.aload_n 0, 1) := by decide +kernel
theorem dX11_init_235 : decode cX11_init 235 = .ok (.iconst 0, 1) := by decide +kernel
theorem dX11_init_236 : decode cX11_init 236 = .ok (.iconst 4, 1) := by decide +kernel
theorem dX11_init_237 : decode cX11_init 237 = .ok (.invokevirtual 59, 3) := by decide +kernel
theorem dX11_init_240 : decode cX11_init 240 = .ok (.aload_n 0, 1) := by decide +kernel
theorem dX11_init_241 : decode cX11_init 241 = .ok (.iconst 1, 1) := by decide +kernel
theorem dX11_init_242 : decode cX11_init 242 = .ok (.iconst 3, 1) := by decide +kernel
theorem dX11_init_243 : decode cX11_init 243 = .ok (.invokevirtual 59, 3) := by decide +kernel
theorem dX11_init_246 : decode cX11_init 246 = .ok (.aload_n 0, 1) := by decide +kernel
theorem dX11_init_247 : decode cX11_init 247 = .ok (.iconst 2, 1) := by decide +kernel
theorem dX11_init_248 : decode cX11_init 248 = .ok (.iconst 5, 1) := by decide +kernel
theorem dX11_init_249 : decode cX11_init 249 = .ok (.invokevirtual 59, 3) := by decide +kernel
theorem dX11_init_252 : decode cX11_init 252 = .ok (.aload_n 0, 1) := by decide +kernel
theorem dX11_init_253 : decode cX11_init 253 = .ok (.invokevirtual 63, 3) := by decide +kernel
theorem dX11_init_256 : decode cX11_init 256 = .ok (.return_, 1) := by decide +kernel
theorem dX11_thrown_0 : decode cX11_thrown 0 = .ok (.aload_n 0, 1) := by decide +kernel
theorem dX11_thrown_1 : decode cX11_thrown 1 = .ok (.getfield 66, 3) := by decide +kernel
theorem dX11_thrown_4 : decode cX11_thrown 4 = .ok (.ireturn, 1) := by decide +kernel
theorem dX11_inRange_0 : decode cX11_inRange 0 = .ok (.iload_n 0, 1) := by decide +kernel
theorem dX11_inRange_1 : decode cX11_inRange 1 = .ok (.iload_n 1, 1) := by decide +kernel
theorem dX11_inRange_2 : decode cX11_inRange 2 = .ok (.if_icmp .lt 12, 3) := by decide +kernel
theorem dX11_inRange_5 : decode cX11_inRange 5 = .ok (.iload_n 0, 1) := by decide +kernel
theorem dX11_inRange_6 : decode cX11_inRange 6 = .ok (.iload_n 2, 1) := by decide +kernel
theorem dX11_inRange_7 : decode cX11_inRange 7 = .ok (.if_icmp .gt 7, 3) := by decide +kernel
theorem dX11_inRange_10 : decode cX11_inRange 10 = .ok (.iconst 1, 1) := by decide +kernel
theorem dX11_inRange_11 : decode cX11_inRange 11 = .ok (.goto 4, 3) := by decide +kernel
theorem dX11_inRange_14 : decode cX11_inRange 14 = .ok (.iconst 0, 1) := by decide +kernel
theorem dX11_inRange_15 : decode cX11_inRange 15 = .ok (.ireturn, 1) := by decide +kernel
theorem dX11_one_0 : decode cX11_one 0 = .ok (.iload_n 0, 1) := by decide +kernel
theorem dX11_one_1 : decode cX11_one 1 = .ok (.ifCond .eq 7, 3) := by decide +kernel
theorem dX11_one_4 : decode cX11_one 4 = .ok (.iconst 1, 1) := by decide +kernel
theorem dX11_one_5 : decode cX11_one 5 = .ok (.goto 4, 3) := by decide +kernel
theorem dX11_one_8 : decode cX11_one 8 = .ok (.iconst 0, 1) := by decide +kernel
theorem dX11_one_9 : decode cX11_one 9 = .ok (.ireturn, 1) := by decide +kernel
theorem dX11_fails_0 : decode cX11_fails 0 = .ok (.iload_n 1, 1) := by decide +kernel
theorem dX11_fails_1 : decode cX11_fails 1 = .ok (.ifCond .eq 8, 3) := by decide +kernel
theorem dX11_fails_4 : decode cX11_fails 4 = .ok (.aload_n 0, 1) := by decide +kernel
theorem dX11_fails_5 : decode cX11_fails 5 = .ok (.iload_n 2, 1) := by decide +kernel
theorem dX11_fails_6 : decode cX11_fails 6 = .ok (.putfield 66, 3) := by decide +kernel
theorem dX11_fails_9 : decode cX11_fails 9 = .ok (.iload_n 1, 1) := by decide +kernel
theorem dX11_fails_10 : decode cX11_fails 10 = .ok (.ireturn, 1) := by decide +kernel
theorem dX11_copies_0 : decode cX11_copies 0 = .ok (.iconst 0, 1) := by decide +kernel
theorem dX11_copies_1 : decode cX11_copies 1 = .ok (.istore 4, 2) := by decide +kernel
theorem dX11_copies_3 : decode cX11_copies 3 = .ok (.iload 4, 2) := by decide +kernel
theorem dX11_copies_5 : decode cX11_copies 5 = .ok (.sipush 257, 3) := by decide +kernel
theorem dX11_copies_8 : decode cX11_copies 8 = .ok (.if_icmp .ge 21, 3) := by decide +kernel
theorem dX11_copies_11 : decode cX11_copies 11 = .ok (.aload_n 2, 1) := by decide +kernel
theorem dX11_copies_12 : decode cX11_copies 12 = .ok (.iload_n 3, 1) := by decide +kernel
theorem dX11_copies_13 : decode cX11_copies 13 = .ok (.iload 4, 2) := by decide +kernel
theorem dX11_copies_15 : decode cX11_copies 15 = .ok (.iadd, 1) := by decide +kernel
theorem dX11_copies_16 : decode cX11_copies 16 = .ok (.aload_n 0, 1) := by decide +kernel
theorem dX11_copies_17 : decode cX11_copies 17 = .ok (.iload_n 1, 1) := by decide +kernel
theorem dX11_copies_18 : decode cX11_copies 18 = .ok (.iload 4, 2) := by decide +kernel
theorem dX11_copies_20 : decode cX11_copies 20 = .ok (.iadd, 1) := by decide +kernel
theorem dX11_copies_21 : decode cX11_copies 21 = .ok (.iaload, 1) := by decide +kernel
theorem dX11_copies_22 : decode cX11_copies 22 = .ok (.iastore, 1) := by decide +kernel
theorem dX11_copies_23 : decode cX11_copies 23 = .ok (.iinc 4 1, 3) := by decide +kernel
theorem dX11_copies_26 : decode cX11_copies 26 = .ok (.goto (-23), 3) := by decide +kernel
theorem dX11_copies_29 : decode cX11_copies 29 = .ok (.return_, 1) := by decide +kernel
theorem dX11_begins_0 : decode cX11_begins 0 = .ok (.iconst 0, 1) := by decide +kernel
theorem dX11_begins_1 : decode cX11_begins 1 = .ok (.istore_n 1, 1) := by decide +kernel
theorem dX11_begins_2 : decode cX11_begins 2 = .ok (.iload_n 1, 1) := by decide +kernel
theorem dX11_begins_3 : decode cX11_begins 3 = .ok (.sipush 257, 3) := by decide +kernel
theorem dX11_begins_6 : decode cX11_begins 6 = .ok (.if_icmp .ge 16, 3) := by decide +kernel
theorem dX11_begins_9 : decode cX11_begins 9 = .ok (.aload_n 0, 1) := by decide +kernel
theorem dX11_begins_10 : decode cX11_begins 10 = .ok (.getfield 7, 3) := by decide +kernel
theorem dX11_begins_13 : decode cX11_begins 13 = .ok (.iload_n 1, 1) := by decide +kernel
theorem dX11_begins_14 : decode cX11_begins 14 = .ok (.iconst 0, 1) := by decide +kernel
theorem dX11_begins_15 : decode cX11_begins 15 = .ok (.iastore, 1) := by decide +kernel
theorem dX11_begins_16 : decode cX11_begins 16 = .ok (.iinc 1 1, 3) := by decide +kernel
theorem dX11_begins_19 : decode cX11_begins 19 = .ok (.goto (-17), 3) := by decide +kernel
theorem dX11_begins_22 : decode cX11_begins 22 = .ok (.aload_n 0, 1) := by decide +kernel
theorem dX11_begins_23 : decode cX11_begins 23 = .ok (.getfield 7, 3) := by decide +kernel
theorem dX11_begins_26 : decode cX11_begins 26 = .ok (.iconst 3, 1) := by decide +kernel
theorem dX11_begins_27 : decode cX11_begins 27 = .ok (.bipush 6, 2) := by decide +kernel
theorem dX11_begins_29 : decode cX11_begins 29 = .ok (.iastore, 1) := by decide +kernel
theorem dX11_begins_30 : decode cX11_begins 30 = .ok (.aload_n 0, 1) := by decide +kernel
theorem dX11_begins_31 : decode cX11_begins 31 = .ok (.getfield 7, 3) := by decide +kernel
theorem dX11_begins_34 : decode cX11_begins 34 = .ok (.iconst 4, 1) := by decide +kernel
theorem dX11_begins_35 : decode cX11_begins 35 = .ok (.iconst 3, 1) := by decide +kernel
theorem dX11_begins_36 : decode cX11_begins 36 = .ok (.iastore, 1) := by decide +kernel
theorem dX11_begins_37 : decode cX11_begins 37 = .ok (.aload_n 0, 1) := by decide +kernel
theorem dX11_begins_38 : decode cX11_begins 38 = .ok (.getfield 7, 3) := by decide +kernel
theorem dX11_begins_41 : decode cX11_begins 41 = .ok (.iconst 5, 1) := by decide +kernel
theorem dX11_begins_42 : decode cX11_begins 42 = .ok (.iconst (-1), 1) := by decide +kernel
theorem dX11_begins_43 : decode cX11_begins 43 = .ok (.iastore, 1) := by decide +kernel
theorem dX11_begins_44 : decode cX11_begins 44 = .ok (.return_, 1) := by decide +kernel
theorem dX11_ofCat_0 : decode cX11_ofCat 0 = .ok (.aload_n 0, 1) := by decide +kernel
theorem dX11_ofCat_1 : decode cX11_ofCat 1 = .ok (.getfield 7, 3) := by decide +kernel
theorem dX11_ofCat_4 : decode cX11_ofCat 4 = .ok (.bipush 65, 2) := by decide +kernel
theorem dX11_ofCat_6 : decode cX11_ofCat 6 = .ok (.bipush 12, 2) := by decide +kernel
theorem dX11_ofCat_8 : decode cX11_ofCat 8 = .ok (.iload_n 1, 1) := by decide +kernel
theorem dX11_ofCat_9 : decode cX11_ofCat 9 = .ok (.imul, 1) := by decide +kernel
theorem dX11_ofCat_10 : decode cX11_ofCat 10 = .ok (.iadd, 1) := by decide +kernel
theorem dX11_ofCat_11 : decode cX11_ofCat 11 = .ok (.iload_n 2, 1) := by decide +kernel
theorem dX11_ofCat_12 : decode cX11_ofCat 12 = .ok (.iadd, 1) := by decide +kernel
theorem dX11_ofCat_13 : decode cX11_ofCat 13 = .ok (.iaload, 1) := by decide +kernel
theorem dX11_ofCat_14 : decode cX11_ofCat 14 = .ok (.ireturn, 1) := by decide +kernel
theorem dX11_putsCat_0 : decode cX11_putsCat 0 = .ok (.aload_n 0, 1) := by decide +kernel
theorem dX11_putsCat_1 : decode cX11_putsCat 1 = .ok (.getfield 7, 3) := by decide +kernel
theorem dX11_putsCat_4 : decode cX11_putsCat 4 = .ok (.bipush 65, 2) := by decide +kernel
theorem dX11_putsCat_6 : decode cX11_putsCat 6 = .ok (.bipush 12, 2) := by decide +kernel
theorem dX11_putsCat_8 : decode cX11_putsCat 8 = .ok (.iload_n 1, 1) := by decide +kernel
theorem dX11_putsCat_9 : decode cX11_putsCat 9 = .ok (.imul, 1) := by decide +kernel
theorem dX11_putsCat_10 : decode cX11_putsCat 10 = .ok (.iadd, 1) := by decide +kernel
theorem dX11_putsCat_11 : decode cX11_putsCat 11 = .ok (.iload_n 2, 1) := by decide +kernel
theorem dX11_putsCat_12 : decode cX11_putsCat 12 = .ok (.iadd, 1) := by decide +kernel
theorem dX11_putsCat_13 : decode cX11_putsCat 13 = .ok (.iload_n 3, 1) := by decide +kernel
theorem dX11_putsCat_14 : decode cX11_putsCat 14 = .ok (.iastore, 1) := by decide +kernel
theorem dX11_putsCat_15 : decode cX11_putsCat 15 = .ok (.return_, 1) := by decide +kernel
theorem dX11_ofSack_0 : decode cX11_ofSack 0 = .ok (.aload_n 0, 1) := by decide +kernel
theorem dX11_ofSack_1 : decode cX11_ofSack 1 = .ok (.getfield 7, 3) := by decide +kernel
theorem dX11_ofSack_4 : decode cX11_ofSack 4 = .ok (.sipush 161, 3) := by decide +kernel
theorem dX11_ofSack_7 : decode cX11_ofSack 7 = .ok (.bipush 12, 2) := by decide +kernel
theorem dX11_ofSack_9 : decode cX11_ofSack 9 = .ok (.iload_n 1, 1) := by decide +kernel
theorem dX11_ofSack_10 : decode cX11_ofSack 10 = .ok (.imul, 1) := by decide +kernel
theorem dX11_ofSack_11 : decode cX11_ofSack 11 = .ok (.iadd, 1) := by decide +kernel
theorem dX11_ofSack_12 : decode cX11_ofSack 12 = .ok (.iload_n 2, 1) := by decide +kernel
theorem dX11_ofSack_13 : decode cX11_ofSack 13 = .ok (.iadd, 1) := by decide +kernel
theorem dX11_ofSack_14 : decode cX11_ofSack 14 = .ok (.iaload, 1) := by decide +kernel
theorem dX11_ofSack_15 : decode cX11_ofSack 15 = .ok (.ireturn, 1) := by decide +kernel
theorem dX11_putsSack_0 : decode cX11_putsSack 0 = .ok (.aload_n 0, 1) := by decide +kernel
theorem dX11_putsSack_1 : decode cX11_putsSack 1 = .ok (.getfield 7, 3) := by decide +kernel
theorem dX11_putsSack_4 : decode cX11_putsSack 4 = .ok (.sipush 161, 3) := by decide +kernel
theorem dX11_putsSack_7 : decode cX11_putsSack 7 = .ok (.bipush 12, 2) := by decide +kernel
theorem dX11_putsSack_9 : decode cX11_putsSack 9 = .ok (.iload_n 1, 1) := by decide +kernel
theorem dX11_putsSack_10 : decode cX11_putsSack 10 = .ok (.imul, 1) := by decide +kernel
theorem dX11_putsSack_11 : decode cX11_putsSack 11 = .ok (.iadd, 1) := by decide +kernel
theorem dX11_putsSack_12 : decode cX11_putsSack 12 = .ok (.iload_n 2, 1) := by decide +kernel
theorem dX11_putsSack_13 : decode cX11_putsSack 13 = .ok (.iadd, 1) := by decide +kernel
theorem dX11_putsSack_14 : decode cX11_putsSack 14 = .ok (.iload_n 3, 1) := by decide +kernel
theorem dX11_putsSack_15 : decode cX11_putsSack 15 = .ok (.iastore, 1) := by decide +kernel
theorem dX11_putsSack_16 : decode cX11_putsSack 16 = .ok (.return_, 1) := by decide +kernel
theorem dX11_spells_0 : decode cX11_spells 0 = .ok (.aload_n 0, 1) := by decide +kernel
theorem dX11_spells_1 : decode cX11_spells 1 = .ok (.getfield 7, 3) := by decide +kernel
theorem dX11_spells_4 : decode cX11_spells 4 = .ok (.iload_n 1, 1) := by decide +kernel
theorem dX11_spells_5 : decode cX11_spells 5 = .ok (.iconst 1, 1) := by decide +kernel
theorem dX11_spells_6 : decode cX11_spells 6 = .ok (.iadd, 1) := by decide +kernel
theorem dX11_spells_7 : decode cX11_spells 7 = .ok (.iload_n 2, 1) := by decide +kernel
theorem dX11_spells_8 : decode cX11_spells 8 = .ok (.iastore, 1) := by decide +kernel
theorem dX11_spells_9 : decode cX11_spells 9 = .ok (.aload_n 0, 1) := by decide +kernel
theorem dX11_spells_10 : decode cX11_spells 10 = .ok (.getfield 7, 3) := by decide +kernel
theorem dX11_spells_13 : decode cX11_spells 13 = .ok (.iload_n 1, 1) := by decide +kernel
theorem dX11_spells_14 : decode cX11_spells 14 = .ok (.iconst 1, 1) := by decide +kernel
theorem dX11_spells_15 : decode cX11_spells 15 = .ok (.iadd, 1) := by decide +kernel
theorem dX11_spells_16 : decode cX11_spells 16 = .ok (.iconst 1, 1) := by decide +kernel
theorem dX11_spells_17 : decode cX11_spells 17 = .ok (.iadd, 1) := by decide +kernel
theorem dX11_spells_18 : decode cX11_spells 18 = .ok (.iload_n 3, 1) := by decide +kernel
theorem dX11_spells_19 : decode cX11_spells 19 = .ok (.iastore, 1) := by decide +kernel
theorem dX11_spells_20 : decode cX11_spells 20 = .ok (.aload_n 0, 1) := by decide +kernel
theorem dX11_spells_21 : decode cX11_spells 21 = .ok (.getfield 7, 3) := by decide +kernel
theorem dX11_spells_24 : decode cX11_spells 24 = .ok (.iload_n 1, 1) := by decide +kernel
theorem dX11_spells_25 : decode cX11_spells 25 = .ok (.iconst 1, 1) := by decide +kernel
theorem dX11_spells_26 : decode cX11_spells 26 = .ok (.iadd, 1) := by decide +kernel
theorem dX11_spells_27 : decode cX11_spells 27 = .ok (.iconst 2, 1) := by decide +kernel
theorem dX11_spells_28 : decode cX11_spells 28 = .ok (.iadd, 1) := by decide +kernel
theorem dX11_spells_29 : decode cX11_spells 29 = .ok (.iload 4, 2) := by decide +kernel
theorem dX11_spells_31 : decode cX11_spells 31 = .ok (.iastore, 1) := by decide +kernel
theorem dX11_spells_32 : decode cX11_spells 32 = .ok (.aload_n 0, 1) := by decide +kernel
theorem dX11_spells_33 : decode cX11_spells 33 = .ok (.getfield 7, 3) := by decide +kernel
theorem dX11_spells_36 : decode cX11_spells 36 = .ok (.iload_n 1, 1) := by decide +kernel
theorem dX11_spells_37 : decode cX11_spells 37 = .ok (.iconst 1, 1) := by decide +kernel
theorem dX11_spells_38 : decode cX11_spells 38 = .ok (.iadd, 1) := by decide +kernel
theorem dX11_spells_39 : decode cX11_spells 39 = .ok (.iconst 3, 1) := by decide +kernel
theorem dX11_spells_40 : decode cX11_spells 40 = .ok (.iadd, 1) := by decide +kernel
theorem dX11_spells_41 : decode cX11_spells 41 = .ok (.iload 5, 2) := by decide +kernel
theorem dX11_spells_43 : decode cX11_spells 43 = .ok (.iastore, 1) := by decide +kernel
theorem dX11_spells_44 : decode cX11_spells 44 = .ok (.return_, 1) := by decide +kernel
theorem dX11_addsCat_0 : decode cX11_addsCat 0 = .ok (.aload_n 0, 1) := by decide +kernel
theorem dX11_addsCat_1 : decode cX11_addsCat 1 = .ok (.getfield 7, 3) := by decide +kernel
theorem dX11_addsCat_4 : decode cX11_addsCat 4 = .ok (.iconst 0, 1) := by decide +kernel
theorem dX11_addsCat_5 : decode cX11_addsCat 5 = .ok (.iaload, 1) := by decide +kernel
theorem dX11_addsCat_6 : decode cX11_addsCat 6 = .ok (.istore 4, 2) := by decide +kernel
theorem dX11_addsCat_8 : decode cX11_addsCat 8 = .ok (.aload_n 0, 1) := by decide +kernel
theorem dX11_addsCat_9 : decode cX11_addsCat 9 = .ok (.iload 4, 2) := by decide +kernel
theorem dX11_addsCat_11 : decode cX11_addsCat 11 = .ok (.iconst 0, 1) := by decide +kernel
theorem dX11_addsCat_12 : decode cX11_addsCat 12 = .ok (.iload_n 1, 1) := by decide +kernel
theorem dX11_addsCat_13 : decode cX11_addsCat 13 = .ok (.invokevirtual 69, 3) := by decide +kernel
theorem dX11_addsCat_16 : decode cX11_addsCat 16 = .ok (.aload_n 0, 1) := by decide +kernel
theorem dX11_addsCat_17 : decode cX11_addsCat 17 = .ok (.iload 4, 2) := by decide +kernel
theorem dX11_addsCat_19 : decode cX11_addsCat 19 = .ok (.bipush 7, 2) := by decide +kernel
theorem dX11_addsCat_21 : decode cX11_addsCat 21 = .ok (.iload_n 2, 1) := by decide +kernel
theorem dX11_addsCat_22 : decode cX11_addsCat 22 = .ok (.invokevirtual 69, 3) := by decide +kernel
theorem dX11_addsCat_25 : decode cX11_addsCat 25 = .ok (.aload_n 0, 1) := by decide +kernel
theorem dX11_addsCat_26 : decode cX11_addsCat 26 = .ok (.iload 4, 2) := by decide +kernel
theorem dX11_addsCat_28 : decode cX11_addsCat 28 = .ok (.bipush 8, 2) := by decide +kernel
theorem dX11_addsCat_30 : decode cX11_addsCat 30 = .ok (.iload_n 3, 1) := by decide +kernel
theorem dX11_addsCat_31 : decode cX11_addsCat 31 = .ok (.invokevirtual 69, 3) := by decide +kernel
theorem dX11_addsCat_34 : decode cX11_addsCat 34 = .ok (.aload_n 0, 1) := by decide +kernel
theorem dX11_addsCat_35 : decode cX11_addsCat 35 = .ok (.getfield 7, 3) := by decide +kernel
theorem dX11_addsCat_38 : decode cX11_addsCat 38 = .ok (.iconst 0, 1) := by decide +kernel
theorem dX11_addsCat_39 : decode cX11_addsCat 39 = .ok (.dup2, 1) := by decide +kernel
theorem dX11_addsCat_40 : decode cX11_addsCat 40 = .ok (.iaload, 1) := by decide +kernel
theorem dX11_addsCat_41 : decode cX11_addsCat 41 = .ok (.iconst 1, 1) := by decide +kernel
theorem dX11_addsCat_42 : decode cX11_addsCat 42 = .ok (.iadd, 1) := by decide +kernel
theorem dX11_addsCat_43 : decode cX11_addsCat 43 = .ok (.iastore, 1) := by decide +kernel
theorem dX11_addsCat_44 : decode cX11_addsCat 44 = .ok (.return_, 1) := by decide +kernel
theorem dX11_addsSack_0 : decode cX11_addsSack 0 = .ok (.aload_n 0, 1) := by decide +kernel
theorem dX11_addsSack_1 : decode cX11_addsSack 1 = .ok (.getfield 7, 3) := by decide +kernel
theorem dX11_addsSack_4 : decode cX11_addsSack 4 = .ok (.iconst 1, 1) := by decide +kernel
theorem dX11_addsSack_5 : decode cX11_addsSack 5 = .ok (.iaload, 1) := by decide +kernel
theorem dX11_addsSack_6 : decode cX11_addsSack 6 = .ok (.istore 5, 2) := by decide +kernel
theorem dX11_addsSack_8 : decode cX11_addsSack 8 = .ok (.aload_n 0, 1) := by decide +kernel
theorem dX11_addsSack_9 : decode cX11_addsSack 9 = .ok (.iload 5, 2) := by decide +kernel
theorem dX11_addsSack_11 : decode cX11_addsSack 11 = .ok (.iconst 0, 1) := by decide +kernel
theorem dX11_addsSack_12 : decode cX11_addsSack 12 = .ok (.iload_n 1, 1) := by decide +kernel
theorem dX11_addsSack_13 : decode cX11_addsSack 13 = .ok (.invokevirtual 72, 3) := by decide +kernel
theorem dX11_addsSack_16 : decode cX11_addsSack 16 = .ok (.aload_n 0, 1) := by decide +kernel
theorem dX11_addsSack_17 : decode cX11_addsSack 17 = .ok (.iload 5, 2) := by decide +kernel
theorem dX11_addsSack_19 : decode cX11_addsSack 19 = .ok (.bipush 7, 2) := by decide +kernel
theorem dX11_addsSack_21 : decode cX11_addsSack 21 = .ok (.iload_n 2, 1) := by decide +kernel
theorem dX11_addsSack_22 : decode cX11_addsSack 22 = .ok (.invokevirtual 72, 3) := by decide +kernel
theorem dX11_addsSack_25 : decode cX11_addsSack 25 = .ok (.aload_n 0, 1) := by decide +kernel
theorem dX11_addsSack_26 : decode cX11_addsSack 26 = .ok (.iload 5, 2) := by decide +kernel
theorem dX11_addsSack_28 : decode cX11_addsSack 28 = .ok (.bipush 8, 2) := by decide +kernel
theorem dX11_addsSack_30 : decode cX11_addsSack 30 = .ok (.iload_n 3, 1) := by decide +kernel
theorem dX11_addsSack_31 : decode cX11_addsSack 31 = .ok (.invokevirtual 72, 3) := by decide +kernel
theorem dX11_addsSack_34 : decode cX11_addsSack 34 = .ok (.aload_n 0, 1) := by decide +kernel
theorem dX11_addsSack_35 : decode cX11_addsSack 35 = .ok (.iload 5, 2) := by decide +kernel
theorem dX11_addsSack_37 : decode cX11_addsSack 37 = .ok (.bipush 9, 2) := by decide +kernel
theorem dX11_addsSack_39 : decode cX11_addsSack 39 = .ok (.iload 4, 2) := by decide +kernel
theorem dX11_addsSack_41 : decode cX11_addsSack 41 = .ok (.invokevirtual 72, 3) := by decide +kernel
theorem dX11_addsSack_44 : decode cX11_addsSack 44 = .ok (.aload_n 0, 1) := by decide +kernel
theorem dX11_addsSack_45 : decode cX11_addsSack 45 = .ok (.getfield 7, 3) := by decide +kernel
theorem dX11_addsSack_48 : decode cX11_addsSack 48 = .ok (.iconst 1, 1) := by decide +kernel
theorem dX11_addsSack_49 : decode cX11_addsSack 49 = .ok (.dup2, 1) := by decide +kernel
theorem dX11_addsSack_50 : decode cX11_addsSack 50 = .ok (.iaload, 1) := by decide +kernel
theorem dX11_addsSack_51 : decode cX11_addsSack 51 = .ok (.iconst 1, 1) := by decide +kernel
theorem dX11_addsSack_52 : decode cX11_addsSack 52 = .ok (.iadd, 1) := by decide +kernel
theorem dX11_addsSack_53 : decode cX11_addsSack 53 = .ok (.iastore, 1) := by decide +kernel
theorem dX11_addsSack_54 : decode cX11_addsSack 54 = .ok (.return_, 1) := by decide +kernel
theorem dX11_addsShift_0 : decode cX11_addsShift 0 = .ok (.aload_n 0, 1) := by decide +kernel
theorem dX11_addsShift_1 : decode cX11_addsShift 1 = .ok (.getfield 7, 3) := by decide +kernel
theorem dX11_addsShift_4 : decode cX11_addsShift 4 = .ok (.sipush 233, 3) := by decide +kernel
theorem dX11_addsShift_7 : decode cX11_addsShift 7 = .ok (.iconst 2, 1) := by decide +kernel
theorem dX11_addsShift_8 : decode cX11_addsShift 8 = .ok (.aload_n 0, 1) := by decide +kernel
theorem dX11_addsShift_9 : decode cX11_addsShift 9 = .ok (.getfield 7, 3) := by decide +kernel
theorem dX11_addsShift_12 : decode cX11_addsShift 12 = .ok (.iconst 2, 1) := by decide +kernel
theorem dX11_addsShift_13 : decode cX11_addsShift 13 = .ok (.iaload, 1) := by decide +kernel
theorem dX11_addsShift_14 : decode cX11_addsShift 14 = .ok (.imul, 1) := by decide +kernel
theorem dX11_addsShift_15 : decode cX11_addsShift 15 = .ok (.iadd, 1) := by decide +kernel
theorem dX11_addsShift_16 : decode cX11_addsShift 16 = .ok (.iload_n 1, 1) := by decide +kernel
theorem dX11_addsShift_17 : decode cX11_addsShift 17 = .ok (.iastore, 1) := by decide +kernel
theorem dX11_addsShift_18 : decode cX11_addsShift 18 = .ok (.aload_n 0, 1) := by decide +kernel
theorem dX11_addsShift_19 : decode cX11_addsShift 19 = .ok (.getfield 7, 3) := by decide +kernel
theorem dX11_addsShift_22 : decode cX11_addsShift 22 = .ok (.sipush 233, 3) := by decide +kernel
theorem dX11_addsShift_25 : decode cX11_addsShift 25 = .ok (.iconst 2, 1) := by decide +kernel
theorem dX11_addsShift_26 : decode cX11_addsShift 26 = .ok (.aload_n 0, 1) := by decide +kernel
theorem dX11_addsShift_27 : decode cX11_addsShift 27 = .ok (.getfield 7, 3) := by decide +kernel
theorem dX11_addsShift_30 : decode cX11_addsShift 30 = .ok (.iconst 2, 1) := by decide +kernel
theorem dX11_addsShift_31 : decode cX11_addsShift 31 = .ok (.iaload, 1) := by decide +kernel
theorem dX11_addsShift_32 : decode cX11_addsShift 32 = .ok (.imul, 1) := by decide +kernel
theorem dX11_addsShift_33 : decode cX11_addsShift 33 = .ok (.iadd, 1) := by decide +kernel
theorem dX11_addsShift_34 : decode cX11_addsShift 34 = .ok (.iconst 1, 1) := by decide +kernel
theorem dX11_addsShift_35 : decode cX11_addsShift 35 = .ok (.iadd, 1) := by decide +kernel
theorem dX11_addsShift_36 : decode cX11_addsShift 36 = .ok (.iload_n 2, 1) := by decide +kernel
theorem dX11_addsShift_37 : decode cX11_addsShift 37 = .ok (.iastore, 1) := by decide +kernel
theorem dX11_addsShift_38 : decode cX11_addsShift 38 = .ok (.aload_n 0, 1) := by decide +kernel
theorem dX11_addsShift_39 : decode cX11_addsShift 39 = .ok (.getfield 7, 3) := by decide +kernel
theorem dX11_addsShift_42 : decode cX11_addsShift 42 = .ok (.iconst 2, 1) := by decide +kernel
theorem dX11_addsShift_43 : decode cX11_addsShift 43 = .ok (.dup2, 1) := by decide +kernel
theorem dX11_addsShift_44 : decode cX11_addsShift 44 = .ok (.iaload, 1) := by decide +kernel
theorem dX11_addsShift_45 : decode cX11_addsShift 45 = .ok (.iconst 1, 1) := by decide +kernel
theorem dX11_addsShift_46 : decode cX11_addsShift 46 = .ok (.iadd, 1) := by decide +kernel
theorem dX11_addsShift_47 : decode cX11_addsShift 47 = .ok (.iastore, 1) := by decide +kernel
theorem dX11_addsShift_48 : decode cX11_addsShift 48 = .ok (.return_, 1) := by decide +kernel
theorem dX11_shiftCat_0 : decode cX11_shiftCat 0 = .ok (.aload_n 0, 1) := by decide +kernel
theorem dX11_shiftCat_1 : decode cX11_shiftCat 1 = .ok (.getfield 7, 3) := by decide +kernel
theorem dX11_shiftCat_4 : decode cX11_shiftCat 4 = .ok (.sipush 233, 3) := by decide +kernel
theorem dX11_shiftCat_7 : decode cX11_shiftCat 7 = .ok (.iconst 2, 1) := by decide +kernel
theorem dX11_shiftCat_8 : decode cX11_shiftCat 8 = .ok (.iload_n 1, 1) := by decide +kernel
theorem dX11_shiftCat_9 : decode cX11_shiftCat 9 = .ok (.imul, 1) := by decide +kernel
theorem dX11_shiftCat_10 : decode cX11_shiftCat 10 = .ok (.iadd, 1) := by decide +kernel
theorem dX11_shiftCat_11 : decode cX11_shiftCat 11 = .ok (.iaload, 1) := by decide +kernel
theorem dX11_shiftCat_12 : decode cX11_shiftCat 12 = .ok (.ireturn, 1) := by decide +kernel
theorem dX11_shiftHours_0 : decode cX11_shiftHours 0 = .ok (.aload_n 0, 1) := by decide +kernel
theorem dX11_shiftHours_1 : decode cX11_shiftHours 1 = .ok (.getfield 7, 3) := by decide +kernel
theorem dX11_shiftHours_4 : decode cX11_shiftHours 4 = .ok (.sipush 233, 3) := by decide +kernel
theorem dX11_shiftHours_7 : decode cX11_shiftHours 7 = .ok (.iconst 2, 1) := by decide +kernel
theorem dX11_shiftHours_8 : decode cX11_shiftHours 8 = .ok (.iload_n 1, 1) := by decide +kernel
theorem dX11_shiftHours_9 : decode cX11_shiftHours 9 = .ok (.imul, 1) := by decide +kernel
theorem dX11_shiftHours_10 : decode cX11_shiftHours 10 = .ok (.iadd, 1) := by decide +kernel
theorem dX11_shiftHours_11 : decode cX11_shiftHours 11 = .ok (.iconst 1, 1) := by decide +kernel
theorem dX11_shiftHours_12 : decode cX11_shiftHours 12 = .ok (.iadd, 1) := by decide +kernel
theorem dX11_shiftHours_13 : decode cX11_shiftHours 13 = .ok (.iaload, 1) := by decide +kernel
theorem dX11_shiftHours_14 : decode cX11_shiftHours 14 = .ok (.ireturn, 1) := by decide +kernel
theorem dX11_sumOf_0 : decode cX11_sumOf 0 = .ok (.iconst 0, 1) := by decide +kernel
theorem dX11_sumOf_1 : decode cX11_sumOf 1 = .ok (.istore 4, 2) := by decide +kernel
theorem dX11_sumOf_3 : decode cX11_sumOf 3 = .ok (.iconst 0, 1) := by decide +kernel
theorem dX11_sumOf_4 : decode cX11_sumOf 4 = .ok (.istore 5, 2) := by decide +kernel
theorem dX11_sumOf_6 : decode cX11_sumOf 6 = .ok (.iload 5, 2) := by decide +kernel
theorem dX11_sumOf_8 : decode cX11_sumOf 8 = .ok (.aload_n 0, 1) := by decide +kernel
theorem dX11_sumOf_9 : decode cX11_sumOf 9 = .ok (.getfield 7, 3) := by decide +kernel
theorem dX11_sumOf_12 : decode cX11_sumOf 12 = .ok (.iload_n 2, 1) := by decide +kernel
theorem dX11_sumOf_13 : decode cX11_sumOf 13 = .ok (.iaload, 1) := by decide +kernel
theorem dX11_sumOf_14 : decode cX11_sumOf 14 = .ok (.if_icmp .ge 28, 3) := by decide +kernel
theorem dX11_sumOf_17 : decode cX11_sumOf 17 = .ok (.iload 4, 2) := by decide +kernel
theorem dX11_sumOf_19 : decode cX11_sumOf 19 = .ok (.aload_n 0, 1) := by decide +kernel
theorem dX11_sumOf_20 : decode cX11_sumOf 20 = .ok (.getfield 7, 3) := by decide +kernel
theorem dX11_sumOf_23 : decode cX11_sumOf 23 = .ok (.iload_n 1, 1) := by decide +kernel
theorem dX11_sumOf_24 : decode cX11_sumOf 24 = .ok (.bipush 12, 2) := by decide +kernel
theorem dX11_sumOf_26 : decode cX11_sumOf 26 = .ok (.iload 5, 2) := by decide +kernel
theorem dX11_sumOf_28 : decode cX11_sumOf 28 = .ok (.imul, 1) := by decide +kernel
theorem dX11_sumOf_29 : decode cX11_sumOf 29 = .ok (.iadd, 1) := by decide +kernel
theorem dX11_sumOf_30 : decode cX11_sumOf 30 = .ok (.iload_n 3, 1) := by decide +kernel
theorem dX11_sumOf_31 : decode cX11_sumOf 31 = .ok (.iadd, 1) := by decide +kernel
theorem dX11_sumOf_32 : decode cX11_sumOf 32 = .ok (.iaload, 1) := by decide +kernel
theorem dX11_sumOf_33 : decode cX11_sumOf 33 = .ok (.iadd, 1) := by decide +kernel
theorem dX11_sumOf_34 : decode cX11_sumOf 34 = .ok (.istore 4, 2) := by decide +kernel
theorem dX11_sumOf_36 : decode cX11_sumOf 36 = .ok (.iinc 5 1, 3) := by decide +kernel
theorem dX11_sumOf_39 : decode cX11_sumOf 39 = .ok (.goto (-33), 3) := by decide +kernel
theorem dX11_sumOf_42 : decode cX11_sumOf 42 = .ok (.iload 4, 2) := by decide +kernel
theorem dX11_sumOf_44 : decode cX11_sumOf 44 = .ok (.ireturn, 1) := by decide +kernel
theorem dX11_starts_0 : decode cX11_starts 0 = .ok (.aload_n 0, 1) := by decide +kernel
theorem dX11_starts_1 : decode cX11_starts 1 = .ok (.getfield 7, 3) := by decide +kernel
theorem dX11_starts_4 : decode cX11_starts 4 = .ok (.bipush 14, 2) := by decide +kernel
theorem dX11_starts_6 : decode cX11_starts 6 = .ok (.aload_n 0, 1) := by decide +kernel
theorem dX11_starts_7 : decode cX11_starts 7 = .ok (.sipush 161, 3) := by decide +kernel
theorem dX11_starts_10 : decode cX11_starts 10 = .ok (.iconst 1, 1) := by decide +kernel
theorem dX11_starts_11 : decode cX11_starts 11 = .ok (.bipush 8, 2) := by decide +kernel
theorem dX11_starts_13 : decode cX11_starts 13 = .ok (.invokevirtual 75, 3) := by decide +kernel
theorem dX11_starts_16 : decode cX11_starts 16 = .ok (.iastore, 1) := by decide +kernel
theorem dX11_starts_17 : decode cX11_starts 17 = .ok (.aload_n 0, 1) := by decide +kernel
theorem dX11_starts_18 : decode cX11_starts 18 = .ok (.getfield 7, 3) := by decide +kernel
theorem dX11_starts_21 : decode cX11_starts 21 = .ok (.bipush 15, 2) := by decide +kernel
theorem dX11_starts_23 : decode cX11_starts 23 = .ok (.aload_n 0, 1) := by decide +kernel
theorem dX11_starts_24 : decode cX11_starts 24 = .ok (.sipush 161, 3) := by decide +kernel
theorem dX11_starts_27 : decode cX11_starts 27 = .ok (.iconst 1, 1) := by decide +kernel
theorem dX11_starts_28 : decode cX11_starts 28 = .ok (.bipush 7, 2) := by decide +kernel
theorem dX11_starts_30 : decode cX11_starts 30 = .ok (.invokevirtual 75, 3) := by decide +kernel
theorem dX11_starts_33 : decode cX11_starts 33 = .ok (.iastore, 1) := by decide +kernel
theorem dX11_starts_34 : decode cX11_starts 34 = .ok (.aload_n 0, 1) := by decide +kernel
theorem dX11_starts_35 : decode cX11_starts 35 = .ok (.getfield 7, 3) := by decide +kernel
theorem dX11_starts_38 : decode cX11_starts 38 = .ok (.bipush 7, 2) := by decide +kernel
theorem dX11_starts_40 : decode cX11_starts 40 = .ok (.aload_n 0, 1) := by decide +kernel
theorem dX11_starts_41 : decode cX11_starts 41 = .ok (.iconst 0, 1) := by decide +kernel
theorem dX11_starts_42 : decode cX11_starts 42 = .ok (.invokevirtual 79, 3) := by decide +kernel
theorem dX11_starts_45 : decode cX11_starts 45 = .ok (.iastore, 1) := by decide +kernel
theorem dX11_starts_46 : decode cX11_starts 46 = .ok (.aload_n 0, 1) := by decide +kernel
theorem dX11_starts_47 : decode cX11_starts 47 = .ok (.aload_n 0, 1) := by decide +kernel
theorem dX11_starts_48 : decode cX11_starts 48 = .ok (.iconst 0, 1) := by decide +kernel
theorem dX11_starts_49 : decode cX11_starts 49 = .ok (.invokevirtual 83, 3) := by decide +kernel
theorem dX11_starts_52 : decode cX11_starts 52 = .ok (.invokevirtual 86, 3) := by decide +kernel
theorem dX11_starts_55 : decode cX11_starts 55 = .ok (.return_, 1) := by decide +kernel
theorem dX11_swearsIn_0 : decode cX11_swearsIn 0 = .ok (.aload_n 0, 1) := by decide +kernel
theorem dX11_swearsIn_1 : decode cX11_swearsIn 1 = .ok (.getfield 7, 3) := by decide +kernel
theorem dX11_swearsIn_4 : decode cX11_swearsIn 4 = .ok (.iconst 5, 1) := by decide +kernel
theorem dX11_swearsIn_5 : decode cX11_swearsIn 5 = .ok (.iload_n 1, 1) := by decide +kernel
theorem dX11_swearsIn_6 : decode cX11_swearsIn 6 = .ok (.iastore, 1) := by decide +kernel
theorem dX11_swearsIn_7 : decode cX11_swearsIn 7 = .ok (.aload_n 0, 1) := by decide +kernel
theorem dX11_swearsIn_8 : decode cX11_swearsIn 8 = .ok (.getfield 7, 3) := by decide +kernel
theorem dX11_swearsIn_11 : decode cX11_swearsIn 11 = .ok (.bipush 12, 2) := by decide +kernel
theorem dX11_swearsIn_13 : decode cX11_swearsIn 13 = .ok (.dup2, 1) := by decide +kernel
theorem dX11_swearsIn_14 : decode cX11_swearsIn 14 = .ok (.iaload, 1) := by decide +kernel
theorem dX11_swearsIn_15 : decode cX11_swearsIn 15 = .ok (.iconst 1, 1) := by decide +kernel
theorem dX11_swearsIn_16 : decode cX11_swearsIn 16 = .ok (.iadd, 1) := by decide +kernel
theorem dX11_swearsIn_17 : decode cX11_swearsIn 17 = .ok (.iastore, 1) := by decide +kernel
theorem dX11_swearsIn_18 : decode cX11_swearsIn 18 = .ok (.aload_n 0, 1) := by decide +kernel
theorem dX11_swearsIn_19 : decode cX11_swearsIn 19 = .ok (.iload_n 1, 1) := by decide +kernel
theorem dX11_swearsIn_20 : decode cX11_swearsIn 20 = .ok (.bipush 11, 2) := by decide +kernel
theorem dX11_swearsIn_22 : decode cX11_swearsIn 22 = .ok (.aload_n 0, 1) := by decide +kernel
theorem dX11_swearsIn_23 : decode cX11_swearsIn 23 = .ok (.iload_n 1, 1) := by decide +kernel
theorem dX11_swearsIn_24 : decode cX11_swearsIn 24 = .ok (.bipush 11, 2) := by decide +kernel
theorem dX11_swearsIn_26 : decode cX11_swearsIn 26 = .ok (.invokevirtual 90, 3) := by decide +kernel
theorem dX11_swearsIn_29 : decode cX11_swearsIn 29 = .ok (.iconst 1, 1) := by decide +kernel
theorem dX11_swearsIn_30 : decode cX11_swearsIn 30 = .ok (.iadd, 1) := by decide +kernel
theorem dX11_swearsIn_31 : decode cX11_swearsIn 31 = .ok (.invokevirtual 69, 3) := by decide +kernel
theorem dX11_swearsIn_34 : decode cX11_swearsIn 34 = .ok (.return_, 1) := by decide +kernel
theorem dX11_strength_0 : decode cX11_strength 0 = .ok (.iconst 0, 1) := by decide +kernel
theorem dX11_strength_1 : decode cX11_strength 1 = .ok (.aload_n 0, 1) := by decide +kernel
theorem dX11_strength_2 : decode cX11_strength 2 = .ok (.iload_n 1, 1) := by decide +kernel
theorem dX11_strength_3 : decode cX11_strength 3 = .ok (.bipush 7, 2) := by decide +kernel
theorem dX11_strength_5 : decode cX11_strength 5 = .ok (.invokevirtual 90, 3) := by decide +kernel
theorem dX11_strength_8 : decode cX11_strength 8 = .ok (.aload_n 0, 1) := by decide +kernel
theorem dX11_strength_9 : decode cX11_strength 9 = .ok (.iload_n 1, 1) := by decide +kernel
theorem dX11_strength_10 : decode cX11_strength 10 = .ok (.bipush 9, 2) := by decide +kernel
theorem dX11_strength_12 : decode cX11_strength 12 = .ok (.invokevirtual 90, 3) := by decide +kernel
theorem dX11_strength_15 : decode cX11_strength 15 = .ok (.iconst 4, 1) := by decide +kernel
theorem dX11_strength_16 : decode cX11_strength 16 = .ok (.idiv, 1) := by decide +kernel
theorem dX11_strength_17 : decode cX11_strength 17 = .ok (.isub, 1) := by decide +kernel
theorem dX11_strength_18 : decode cX11_strength 18 = .ok (.invokestatic 94, 3) := by decide +kernel
theorem dX11_strength_21 : decode cX11_strength 21 = .ok (.ireturn, 1) := by decide +kernel
theorem dX11_isAble_0 : decode cX11_isAble 0 = .ok (.aload_n 0, 1) := by decide +kernel
theorem dX11_isAble_1 : decode cX11_isAble 1 = .ok (.iload_n 1, 1) := by decide +kernel
theorem dX11_isAble_2 : decode cX11_isAble 2 = .ok (.bipush 9, 2) := by decide +kernel
theorem dX11_isAble_4 : decode cX11_isAble 4 = .ok (.invokevirtual 90, 3) := by decide +kernel
theorem dX11_isAble_7 : decode cX11_isAble 7 = .ok (.bipush 12, 2) := by decide +kernel
theorem dX11_isAble_9 : decode cX11_isAble 9 = .ok (.if_icmp .ge 7, 3) := by decide +kernel
theorem dX11_isAble_12 : decode cX11_isAble 12 = .ok (.iconst 1, 1) := by decide +kernel
theorem dX11_isAble_13 : decode cX11_isAble 13 = .ok (.goto 4, 3) := by decide +kernel
theorem dX11_isAble_16 : decode cX11_isAble 16 = .ok (.iconst 0, 1) := by decide +kernel
theorem dX11_isAble_17 : decode cX11_isAble 17 = .ok (.ireturn, 1) := by decide +kernel
theorem dX11_isPawRight_0 : decode cX11_isPawRight 0 = .ok (.iload_n 1, 1) := by decide +kernel
theorem dX11_isPawRight_1 : decode cX11_isPawRight 1 = .ok (.aload_n 0, 1) := by decide +kernel
theorem dX11_isPawRight_2 : decode cX11_isPawRight 2 = .ok (.getfield 7, 3) := by decide +kernel
theorem dX11_isPawRight_5 : decode cX11_isPawRight 5 = .ok (.iconst 5, 1) := by decide +kernel
theorem dX11_isPawRight_6 : decode cX11_isPawRight 6 = .ok (.iaload, 1) := by decide +kernel
theorem dX11_isPawRight_7 : decode cX11_isPawRight 7 = .ok (.if_icmp .eq 25, 3) := by decide +kernel
theorem dX11_isPawRight_10 : decode cX11_isPawRight 10 = .ok (.aload_n 0, 1) := by decide +kernel
theorem dX11_isPawRight_11 : decode cX11_isPawRight 11 = .ok (.iload_n 1, 1) := by decide +kernel
theorem dX11_isPawRight_12 : decode cX11_isPawRight 12 = .ok (.bipush 8, 2) := by decide +kernel
theorem dX11_isPawRight_14 : decode cX11_isPawRight 14 = .ok (.invokevirtual 90, 3) := by decide +kernel
theorem dX11_isPawRight_17 : decode cX11_isPawRight 17 = .ok (.aload_n 0, 1) := by decide +kernel
theorem dX11_isPawRight_18 : decode cX11_isPawRight 18 = .ok (.aload_n 0, 1) := by decide +kernel
theorem dX11_isPawRight_19 : decode cX11_isPawRight 19 = .ok (.getfield 7, 3) := by decide +kernel
theorem dX11_isPawRight_22 : decode cX11_isPawRight 22 = .ok (.iconst 5, 1) := by decide +kernel
theorem dX11_isPawRight_23 : decode cX11_isPawRight 23 = .ok (.iaload, 1) := by decide +kernel
theorem dX11_isPawRight_24 : decode cX11_isPawRight 24 = .ok (.bipush 8, 2) := by decide +kernel
theorem dX11_isPawRight_26 : decode cX11_isPawRight 26 = .ok (.invokevirtual 90, 3) := by decide +kernel
theorem dX11_isPawRight_29 : decode cX11_isPawRight 29 = .ok (.if_icmp .eq 7, 3) := by decide +kernel
theorem dX11_isPawRight_32 : decode cX11_isPawRight 32 = .ok (.iconst 1, 1) := by decide +kernel
theorem dX11_isPawRight_33 : decode cX11_isPawRight 33 = .ok (.goto 4, 3) := by decide +kernel
theorem dX11_isPawRight_36 : decode cX11_isPawRight 36 = .ok (.iconst 0, 1) := by decide +kernel
theorem dX11_isPawRight_37 : decode cX11_isPawRight 37 = .ok (.ireturn, 1) := by decide +kernel
theorem dX11_rests_0 : decode cX11_rests 0 = .ok (.aload_n 0, 1) := by decide +kernel
theorem dX11_rests_1 : decode cX11_rests 1 = .ok (.iload_n 1, 1) := by decide +kernel
theorem dX11_rests_2 : decode cX11_rests 2 = .ok (.bipush 9, 2) := by decide +kernel
theorem dX11_rests_4 : decode cX11_rests 4 = .ok (.iconst 0, 1) := by decide +kernel
theorem dX11_rests_5 : decode cX11_rests 5 = .ok (.aload_n 0, 1) := by decide +kernel
theorem dX11_rests_6 : decode cX11_rests 6 = .ok (.iload_n 1, 1) := by decide +kernel
theorem dX11_rests_7 : decode cX11_rests 7 = .ok (.bipush 9, 2) := by decide +kernel
theorem dX11_rests_9 : decode cX11_rests 9 = .ok (.invokevirtual 90, 3) := by decide +kernel
theorem dX11_rests_12 : decode cX11_rests 12 = .ok (.iload_n 2, 1) := by decide +kernel
theorem dX11_rests_13 : decode cX11_rests 13 = .ok (.isub, 1) := by decide +kernel
theorem dX11_rests_14 : decode cX11_rests 14 = .ok (.invokestatic 94, 3) := by decide +kernel
theorem dX11_rests_17 : decode cX11_rests 17 = .ok (.invokevirtual 69, 3) := by decide +kernel
theorem dX11_rests_20 : decode cX11_rests 20 = .ok (.return_, 1) := by decide +kernel
theorem dX11_logs_0 : decode cX11_logs 0 = .ok (.aload_n 0, 1) := by decide +kernel
theorem dX11_logs_1 : decode cX11_logs 1 = .ok (.getfield 7, 3) := by decide +kernel
theorem dX11_logs_4 : decode cX11_logs 4 = .ok (.bipush 16, 2) := by decide +kernel
theorem dX11_logs_6 : decode cX11_logs 6 = .ok (.iaload, 1) := by decide +kernel
theorem dX11_logs_7 : decode cX11_logs 7 = .ok (.bipush 16, 2) := by decide +kernel
theorem dX11_logs_9 : decode cX11_logs 9 = .ok (.if_icmp .ge 14, 3) := by decide +kernel
theorem dX11_logs_12 : decode cX11_logs 12 = .ok (.aload_n 0, 1) := by decide +kernel
theorem dX11_logs_13 : decode cX11_logs 13 = .ok (.getfield 7, 3) := by decide +kernel
theorem dX11_logs_16 : decode cX11_logs 16 = .ok (.bipush 16, 2) := by decide +kernel
theorem dX11_logs_18 : decode cX11_logs 18 = .ok (.dup2, 1) := by decide +kernel
theorem dX11_logs_19 : decode cX11_logs 19 = .ok (.iaload, 1) := by decide +kernel
theorem dX11_logs_20 : decode cX11_logs 20 = .ok (.iconst 1, 1) := by decide +kernel
theorem dX11_logs_21 : decode cX11_logs 21 = .ok (.iadd, 1) := by decide +kernel
theorem dX11_logs_22 : decode cX11_logs 22 = .ok (.iastore, 1) := by decide +kernel
theorem dX11_logs_23 : decode cX11_logs 23 = .ok (.aload_n 0, 1) := by decide +kernel
theorem dX11_logs_24 : decode cX11_logs 24 = .ok (.getfield 7, 3) := by decide +kernel
theorem dX11_logs_27 : decode cX11_logs 27 = .ok (.bipush 16, 2) := by decide +kernel
theorem dX11_logs_29 : decode cX11_logs 29 = .ok (.iaload, 1) := by decide +kernel
theorem dX11_logs_30 : decode cX11_logs 30 = .ok (.iconst 1, 1) := by decide +kernel
theorem dX11_logs_31 : decode cX11_logs 31 = .ok (.isub, 1) := by decide +kernel
theorem dX11_logs_32 : decode cX11_logs 32 = .ok (.istore 4, 2) := by decide +kernel
theorem dX11_logs_34 : decode cX11_logs 34 = .ok (.iload 4, 2) := by decide +kernel
theorem dX11_logs_36 : decode cX11_logs 36 = .ok (.ifCond .le 56, 3) := by decide +kernel
theorem dX11_logs_39 : decode cX11_logs 39 = .ok (.iconst 0, 1) := by decide +kernel
theorem dX11_logs_40 : decode cX11_logs 40 = .ok (.istore 5, 2) := by decide +kernel
theorem dX11_logs_42 : decode cX11_logs 42 = .ok (.iload 5, 2) := by decide +kernel
theorem dX11_logs_44 : decode cX11_logs 44 = .ok (.iconst 3, 1) := by decide +kernel
theorem dX11_logs_45 : decode cX11_logs 45 = .ok (.if_icmp .ge 41, 3) := by decide +kernel
theorem dX11_logs_48 : decode cX11_logs 48 = .ok (.aload_n 0, 1) := by decide +kernel
theorem dX11_logs_49 : decode cX11_logs 49 = .ok (.getfield 7, 3) := by decide +kernel
theorem dX11_logs_52 : decode cX11_logs 52 = .ok (.bipush 17, 2) := by decide +kernel
theorem dX11_logs_54 : decode cX11_logs 54 = .ok (.iconst 3, 1) := by decide +kernel
theorem dX11_logs_55 : decode cX11_logs 55 = .ok (.iload 4, 2) := by decide +kernel
theorem dX11_logs_57 : decode cX11_logs 57 = .ok (.imul, 1) := by decide +kernel
theorem dX11_logs_58 : decode cX11_logs 58 = .ok (.iadd, 1) := by decide +kernel
theorem dX11_logs_59 : decode cX11_logs 59 = .ok (.iload 5, 2) := by decide +kernel
theorem dX11_logs_61 : decode cX11_logs 61 = .ok (.iadd, 1) := by decide +kernel
theorem dX11_logs_62 : decode cX11_logs 62 = .ok (.aload_n 0, 1) := by decide +kernel
theorem dX11_logs_63 : decode cX11_logs 63 = .ok (.getfield 7, 3) := by decide +kernel
theorem dX11_logs_66 : decode cX11_logs 66 = .ok (.bipush 17, 2) := by decide +kernel
theorem dX11_logs_68 : decode cX11_logs 68 = .ok (.iconst 3, 1) := by decide +kernel
theorem dX11_logs_69 : decode cX11_logs 69 = .ok (.iload 4, 2) := by decide +kernel
theorem dX11_logs_71 : decode cX11_logs 71 = .ok (.imul, 1) := by decide +kernel
theorem dX11_logs_72 : decode cX11_logs 72 = .ok (.iadd, 1) := by decide +kernel
theorem dX11_logs_73 : decode cX11_logs 73 = .ok (.iconst 3, 1) := by decide +kernel
theorem dX11_logs_74 : decode cX11_logs 74 = .ok (.isub, 1) := by decide +kernel
theorem dX11_logs_75 : decode cX11_logs 75 = .ok (.iload 5, 2) := by decide +kernel
theorem dX11_logs_77 : decode cX11_logs 77 = .ok (.iadd, 1) := by decide +kernel
theorem dX11_logs_78 : decode cX11_logs 78 = .ok (.iaload, 1) := by decide +kernel
theorem dX11_logs_79 : decode cX11_logs 79 = .ok (.iastore, 1) := by decide +kernel
theorem dX11_logs_80 : decode cX11_logs 80 = .ok (.iinc 5 1, 3) := by decide +kernel
theorem dX11_logs_83 : decode cX11_logs 83 = .ok (.goto (-41), 3) := by decide +kernel
theorem dX11_logs_86 : decode cX11_logs 86 = .ok (.iinc 4 (-1), 3) := by decide +kernel
theorem dX11_logs_89 : decode cX11_logs 89 = .ok (.goto (-55), 3) := by decide +kernel
theorem dX11_logs_92 : decode cX11_logs 92 = .ok (.aload_n 0, 1) := by decide +kernel
theorem dX11_logs_93 : decode cX11_logs 93 = .ok (.getfield 7, 3) := by decide +kernel
theorem dX11_logs_96 : decode cX11_logs 96 = .ok (.bipush 17, 2) := by decide +kernel
theorem dX11_logs_98 : decode cX11_logs 98 = .ok (.iload_n 1, 1) := by decide +kernel
theorem dX11_logs_99 : decode cX11_logs 99 = .ok (.iastore, 1) := by decide +kernel
theorem dX11_logs_100 : decode cX11_logs 100 = .ok (.aload_n 0, 1) := by decide +kernel
theorem dX11_logs_101 : decode cX11_logs 101 = .ok (.getfield 7, 3) := by decide +kernel
theorem dX11_logs_104 : decode cX11_logs 104 = .ok (.bipush 18, 2) := by decide +kernel
theorem dX11_logs_106 : decode cX11_logs 106 = .ok (.iload_n 2, 1) := by decide +kernel
theorem dX11_logs_107 : decode cX11_logs 107 = .ok (.iastore, 1) := by decide +kernel
theorem dX11_logs_108 : decode cX11_logs 108 = .ok (.aload_n 0, 1) := by decide +kernel
theorem dX11_logs_109 : decode cX11_logs 109 = .ok (.getfield 7, 3) := by decide +kernel
theorem dX11_logs_112 : decode cX11_logs 112 = .ok (.bipush 19, 2) := by decide +kernel
theorem dX11_logs_114 : decode cX11_logs 114 = .ok (.iload_n 3, 1) := by decide +kernel
theorem dX11_logs_115 : decode cX11_logs 115 = .ok (.iastore, 1) := by decide +kernel
theorem dX11_logs_116 : decode cX11_logs 116 = .ok (.return_, 1) := by decide +kernel
theorem dX11_isOpenSack_0 : decode cX11_isOpenSack 0 = .ok (.aload_n 0, 1) := by decide +kernel
theorem dX11_isOpenSack_1 : decode cX11_isOpenSack 1 = .ok (.iload_n 1, 1) := by decide +kernel
theorem dX11_isOpenSack_2 : decode cX11_isOpenSack 2 = .ok (.bipush 9, 2) := by decide +kernel
theorem dX11_isOpenSack_4 : decode cX11_isOpenSack 4 = .ok (.invokevirtual 99, 3) := by decide +kernel
theorem dX11_isOpenSack_7 : decode cX11_isOpenSack 7 = .ok (.iconst 1, 1) := by decide +kernel
theorem dX11_isOpenSack_8 : decode cX11_isOpenSack 8 = .ok (.if_icmp .ne 7, 3) := by decide +kernel
theorem dX11_isOpenSack_11 : decode cX11_isOpenSack 11 = .ok (.iconst 1, 1) := by decide +kernel
theorem dX11_isOpenSack_12 : decode cX11_isOpenSack 12 = .ok (.goto 4, 3) := by decide +kernel
theorem dX11_isOpenSack_15 : decode cX11_isOpenSack 15 = .ok (.iconst 0, 1) := by decide +kernel
theorem dX11_isOpenSack_16 : decode cX11_isOpenSack 16 = .ok (.ireturn, 1) := by decide +kernel
theorem dX11_nextOpen_0 : decode cX11_nextOpen 0 = .ok (.iconst 1, 1) := by decide +kernel
theorem dX11_nextOpen_1 : decode cX11_nextOpen 1 = .ok (.istore_n 2, 1) := by decide +kernel
theorem dX11_nextOpen_2 : decode cX11_nextOpen 2 = .ok (.iload_n 2, 1) := by decide +kernel
theorem dX11_nextOpen_3 : decode cX11_nextOpen 3 = .ok (.aload_n 0, 1) := by decide +kernel
theorem dX11_nextOpen_4 : decode cX11_nextOpen 4 = .ok (.getfield 7, 3) := by decide +kernel
theorem dX11_nextOpen_7 : decode cX11_nextOpen 7 = .ok (.iconst 1, 1) := by decide +kernel
theorem dX11_nextOpen_8 : decode cX11_nextOpen 8 = .ok (.iaload, 1) := by decide +kernel
theorem dX11_nextOpen_9 : decode cX11_nextOpen 9 = .ok (.if_icmp .ge 37, 3) := by decide +kernel
theorem dX11_nextOpen_12 : decode cX11_nextOpen 12 = .ok (.aload_n 0, 1) := by decide +kernel
theorem dX11_nextOpen_13 : decode cX11_nextOpen 13 = .ok (.iload_n 1, 1) := by decide +kernel
theorem dX11_nextOpen_14 : decode cX11_nextOpen 14 = .ok (.iload_n 2, 1) := by decide +kernel
theorem dX11_nextOpen_15 : decode cX11_nextOpen 15 = .ok (.iadd, 1) := by decide +kernel
theorem dX11_nextOpen_16 : decode cX11_nextOpen 16 = .ok (.aload_n 0, 1) := by decide +kernel
theorem dX11_nextOpen_17 : decode cX11_nextOpen 17 = .ok (.getfield 7, 3) := by decide +kernel
theorem dX11_nextOpen_20 : decode cX11_nextOpen 20 = .ok (.iconst 1, 1) := by decide +kernel
theorem dX11_nextOpen_21 : decode cX11_nextOpen 21 = .ok (.iaload, 1) := by decide +kernel
theorem dX11_nextOpen_22 : decode cX11_nextOpen 22 = .ok (.irem, 1) := by decide +kernel
theorem dX11_nextOpen_23 : decode cX11_nextOpen 23 = .ok (.invokevirtual 102, 3) := by decide +kernel
theorem dX11_nextOpen_26 : decode cX11_nextOpen 26 = .ok (.ifCond .eq 14, 3) := by decide +kernel
theorem dX11_nextOpen_29 : decode cX11_nextOpen 29 = .ok (.iload_n 1, 1) := by decide +kernel
theorem dX11_nextOpen_30 : decode cX11_nextOpen 30 = .ok (.iload_n 2, 1) := by decide +kernel
theorem dX11_nextOpen_31 : decode cX11_nextOpen 31 = .ok (.iadd, 1) := by decide +kernel
theorem dX11_nextOpen_32 : decode cX11_nextOpen 32 = .ok (.aload_n 0, 1) := by decide +kernel
theorem dX11_nextOpen_33 : decode cX11_nextOpen 33 = .ok (.getfield 7, 3) := by decide +kernel
theorem dX11_nextOpen_36 : decode cX11_nextOpen 36 = .ok (.iconst 1, 1) := by decide +kernel
theorem dX11_nextOpen_37 : decode cX11_nextOpen 37 = .ok (.iaload, 1) := by decide +kernel
theorem dX11_nextOpen_38 : decode cX11_nextOpen 38 = .ok (.irem, 1) := by decide +kernel
theorem dX11_nextOpen_39 : decode cX11_nextOpen 39 = .ok (.ireturn, 1) := by decide +kernel
theorem dX11_nextOpen_40 : decode cX11_nextOpen 40 = .ok (.iinc 2 1, 3) := by decide +kernel
theorem dX11_nextOpen_43 : decode cX11_nextOpen 43 = .ok (.goto (-41), 3) := by decide +kernel
theorem dX11_nextOpen_46 : decode cX11_nextOpen 46 = .ok (.iconst (-1), 1) := by decide +kernel
theorem dX11_nextOpen_47 : decode cX11_nextOpen 47 = .ok (.ireturn, 1) := by decide +kernel
theorem dX11_starve_0 : decode cX11_starve 0 = .ok (.aload_n 0, 1) := by decide +kernel
theorem dX11_starve_1 : decode cX11_starve 1 = .ok (.iload_n 1, 1) := by decide +kernel
theorem dX11_starve_2 : decode cX11_starve 2 = .ok (.bipush 8, 2) := by decide +kernel
theorem dX11_starve_4 : decode cX11_starve 4 = .ok (.aload_n 0, 1) := by decide +kernel
theorem dX11_starve_5 : decode cX11_starve 5 = .ok (.iload_n 1, 1) := by decide +kernel
theorem dX11_starve_6 : decode cX11_starve 6 = .ok (.bipush 8, 2) := by decide +kernel
theorem dX11_starve_8 : decode cX11_starve 8 = .ok (.invokevirtual 99, 3) := by decide +kernel
theorem dX11_starve_11 : decode cX11_starve 11 = .ok (.iload_n 2, 1) := by decide +kernel
theorem dX11_starve_12 : decode cX11_starve 12 = .ok (.isub, 1) := by decide +kernel
theorem dX11_starve_13 : decode cX11_starve 13 = .ok (.invokevirtual 72, 3) := by decide +kernel
theorem dX11_starve_16 : decode cX11_starve 16 = .ok (.aload_n 0, 1) := by decide +kernel
theorem dX11_starve_17 : decode cX11_starve 17 = .ok (.getfield 7, 3) := by decide +kernel
theorem dX11_starve_20 : decode cX11_starve 20 = .ok (.bipush 11, 2) := by decide +kernel
theorem dX11_starve_22 : decode cX11_starve 22 = .ok (.dup2, 1) := by decide +kernel
theorem dX11_starve_23 : decode cX11_starve 23 = .ok (.iaload, 1) := by decide +kernel
theorem dX11_starve_24 : decode cX11_starve 24 = .ok (.iload_n 2, 1) := by decide +kernel
theorem dX11_starve_25 : decode cX11_starve 25 = .ok (.iadd, 1) := by decide +kernel
theorem dX11_starve_26 : decode cX11_starve 26 = .ok (.iastore, 1) := by decide +kernel
theorem dX11_starve_27 : decode cX11_starve 27 = .ok (.return_, 1) := by decide +kernel
theorem dX11_moves_0 : decode cX11_moves 0 = .ok (.aload_n 0, 1) := by decide +kernel
theorem dX11_moves_1 : decode cX11_moves 1 = .ok (.iload_n 2, 1) := by decide +kernel
theorem dX11_moves_2 : decode cX11_moves 2 = .ok (.bipush 8, 2) := by decide +kernel
theorem dX11_moves_4 : decode cX11_moves 4 = .ok (.aload_n 0, 1) := by decide +kernel
theorem dX11_moves_5 : decode cX11_moves 5 = .ok (.iload_n 2, 1) := by decide +kernel
theorem dX11_moves_6 : decode cX11_moves 6 = .ok (.bipush 8, 2) := by decide +kernel
theorem dX11_moves_8 : decode cX11_moves 8 = .ok (.invokevirtual 99, 3) := by decide +kernel
theorem dX11_moves_11 : decode cX11_moves 11 = .ok (.aload_n 0, 1) := by decide +kernel
theorem dX11_moves_12 : decode cX11_moves 12 = .ok (.iload_n 1, 1) := by decide +kernel
theorem dX11_moves_13 : decode cX11_moves 13 = .ok (.bipush 8, 2) := by decide +kernel
theorem dX11_moves_15 : decode cX11_moves 15 = .ok (.invokevirtual 99, 3) := by decide +kernel
theorem dX11_moves_18 : decode cX11_moves 18 = .ok (.iadd, 1) := by decide +kernel
theorem dX11_moves_19 : decode cX11_moves 19 = .ok (.invokevirtual 72, 3) := by decide +kernel
theorem dX11_moves_22 : decode cX11_moves 22 = .ok (.aload_n 0, 1) := by decide +kernel
theorem dX11_moves_23 : decode cX11_moves 23 = .ok (.iload_n 1, 1) := by decide +kernel
theorem dX11_moves_24 : decode cX11_moves 24 = .ok (.bipush 8, 2) := by decide +kernel
theorem dX11_moves_26 : decode cX11_moves 26 = .ok (.iconst 0, 1) := by decide +kernel
theorem dX11_moves_27 : decode cX11_moves 27 = .ok (.invokevirtual 72, 3) := by decide +kernel
theorem dX11_moves_30 : decode cX11_moves 30 = .ok (.aload_n 0, 1) := by decide +kernel
theorem dX11_moves_31 : decode cX11_moves 31 = .ok (.iload_n 2, 1) := by decide +kernel
theorem dX11_moves_32 : decode cX11_moves 32 = .ok (.bipush 8, 2) := by decide +kernel
theorem dX11_moves_34 : decode cX11_moves 34 = .ok (.invokevirtual 99, 3) := by decide +kernel
theorem dX11_moves_37 : decode cX11_moves 37 = .ok (.bipush 99, 2) := by decide +kernel
theorem dX11_moves_39 : decode cX11_moves 39 = .ok (.if_icmp .le 18, 3) := by decide +kernel
theorem dX11_moves_42 : decode cX11_moves 42 = .ok (.aload_n 0, 1) := by decide +kernel
theorem dX11_moves_43 : decode cX11_moves 43 = .ok (.iload_n 2, 1) := by decide +kernel
theorem dX11_moves_44 : decode cX11_moves 44 = .ok (.aload_n 0, 1) := by decide +kernel
theorem dX11_moves_45 : decode cX11_moves 45 = .ok (.iload_n 2, 1) := by decide +kernel
theorem dX11_moves_46 : decode cX11_moves 46 = .ok (.bipush 8, 2) := by decide +kernel
theorem dX11_moves_48 : decode cX11_moves 48 = .ok (.invokevirtual 99, 3) := by decide +kernel
theorem dX11_moves_51 : decode cX11_moves 51 = .ok (.bipush 99, 2) := by decide +kernel
theorem dX11_moves_53 : decode cX11_moves 53 = .ok (.isub, 1) := by decide +kernel
theorem dX11_moves_54 : decode cX11_moves 54 = .ok (.invokevirtual 106, 3) := by decide +kernel
theorem dX11_moves_57 : decode cX11_moves 57 = .ok (.return_, 1) := by decide +kernel
theorem dX11_eats_0 : decode cX11_eats 0 = .ok (.aload_n 0, 1) := by decide +kernel
theorem dX11_eats_1 : decode cX11_eats 1 = .ok (.iload_n 1, 1) := by decide +kernel
theorem dX11_eats_2 : decode cX11_eats 2 = .ok (.bipush 8, 2) := by decide +kernel
theorem dX11_eats_4 : decode cX11_eats 4 = .ok (.invokevirtual 99, 3) := by decide +kernel
theorem dX11_eats_7 : decode cX11_eats 7 = .ok (.istore_n 2, 1) := by decide +kernel
theorem dX11_eats_8 : decode cX11_eats 8 = .ok (.iload_n 2, 1) := by decide +kernel
theorem dX11_eats_9 : decode cX11_eats 9 = .ok (.aload_n 0, 1) := by decide +kernel
theorem dX11_eats_10 : decode cX11_eats 10 = .ok (.iload_n 1, 1) := by decide +kernel
theorem dX11_eats_11 : decode cX11_eats 11 = .ok (.bipush 7, 2) := by decide +kernel
theorem dX11_eats_13 : decode cX11_eats 13 = .ok (.invokevirtual 99, 3) := by decide +kernel
theorem dX11_eats_16 : decode cX11_eats 16 = .ok (.invokestatic 109, 3) := by decide +kernel
theorem dX11_eats_19 : decode cX11_eats 19 = .ok (.istore_n 3, 1) := by decide +kernel
theorem dX11_eats_20 : decode cX11_eats 20 = .ok (.aload_n 0, 1) := by decide +kernel
theorem dX11_eats_21 : decode cX11_eats 21 = .ok (.iload_n 1, 1) := by decide +kernel
theorem dX11_eats_22 : decode cX11_eats 22 = .ok (.bipush 7, 2) := by decide +kernel
theorem dX11_eats_24 : decode cX11_eats 24 = .ok (.aload_n 0, 1) := by decide +kernel
theorem dX11_eats_25 : decode cX11_eats 25 = .ok (.iload_n 1, 1) := by decide +kernel
theorem dX11_eats_26 : decode cX11_eats 26 = .ok (.bipush 7, 2) := by decide +kernel
theorem dX11_eats_28 : decode cX11_eats 28 = .ok (.invokevirtual 99, 3) := by decide +kernel
theorem dX11_eats_31 : decode cX11_eats 31 = .ok (.iload_n 3, 1) := by decide +kernel
theorem dX11_eats_32 : decode cX11_eats 32 = .ok (.isub, 1) := by decide +kernel
theorem dX11_eats_33 : decode cX11_eats 33 = .ok (.invokevirtual 72, 3) := by decide +kernel
theorem dX11_eats_36 : decode cX11_eats 36 = .ok (.aload_n 0, 1) := by decide +kernel
theorem dX11_eats_37 : decode cX11_eats 37 = .ok (.iload_n 1, 1) := by decide +kernel
theorem dX11_eats_38 : decode cX11_eats 38 = .ok (.bipush 10, 2) := by decide +kernel
theorem dX11_eats_40 : decode cX11_eats 40 = .ok (.aload_n 0, 1) := by decide +kernel
theorem dX11_eats_41 : decode cX11_eats 41 = .ok (.iload_n 1, 1) := by decide +kernel
theorem dX11_eats_42 : decode cX11_eats 42 = .ok (.bipush 10, 2) := by decide +kernel
theorem dX11_eats_44 : decode cX11_eats 44 = .ok (.invokevirtual 99, 3) := by decide +kernel
theorem dX11_eats_47 : decode cX11_eats 47 = .ok (.iload_n 3, 1) := by decide +kernel
theorem dX11_eats_48 : decode cX11_eats 48 = .ok (.iadd, 1) := by decide +kernel
theorem dX11_eats_49 : decode cX11_eats 49 = .ok (.invokevirtual 72, 3) := by decide +kernel
theorem dX11_eats_52 : decode cX11_eats 52 = .ok (.aload_n 0, 1) := by decide +kernel
theorem dX11_eats_53 : decode cX11_eats 53 = .ok (.getfield 7, 3) := by decide +kernel
theorem dX11_eats_56 : decode cX11_eats 56 = .ok (.bipush 9, 2) := by decide +kernel
theorem dX11_eats_58 : decode cX11_eats 58 = .ok (.dup2, 1) := by decide +kernel
theorem dX11_eats_59 : decode cX11_eats 59 = .ok (.iaload, 1) := by decide +kernel
theorem dX11_eats_60 : decode cX11_eats 60 = .ok (.iload_n 3, 1) := by decide +kernel
theorem dX11_eats_61 : decode cX11_eats 61 = .ok (.iadd, 1) := by decide +kernel
theorem dX11_eats_62 : decode cX11_eats 62 = .ok (.iastore, 1) := by decide +kernel
theorem dX11_eats_63 : decode cX11_eats 63 = .ok (.iload_n 2, 1) := by decide +kernel
theorem dX11_eats_64 : decode cX11_eats 64 = .ok (.ifCond .eq 13, 3) := by decide +kernel
theorem dX11_eats_67 : decode cX11_eats 67 = .ok (.aload_n 0, 1) := by decide +kernel
theorem dX11_eats_68 : decode cX11_eats 68 = .ok (.iload_n 1, 1) := by decide +kernel
theorem dX11_eats_69 : decode cX11_eats 69 = .ok (.bipush 7, 2) := by decide +kernel
theorem dX11_eats_71 : decode cX11_eats 71 = .ok (.invokevirtual 99, 3) := by decide +kernel
theorem dX11_eats_74 : decode cX11_eats 74 = .ok (.ifCond .le 4, 3) := by decide +kernel
theorem dX11_eats_77 : decode cX11_eats 77 = .ok (.return_, 1) := by decide +kernel
theorem dX11_eats_78 : decode cX11_eats 78 = .ok (.aload_n 0, 1) := by decide +kernel
theorem dX11_eats_79 : decode cX11_eats 79 = .ok (.iload_n 1, 1) := by decide +kernel
theorem dX11_eats_80 : decode cX11_eats 80 = .ok (.invokevirtual 102, 3) := by decide +kernel
theorem dX11_eats_83 : decode cX11_eats 83 = .ok (.ifCond .eq 11, 3) := by decide +kernel
theorem dX11_eats_86 : decode cX11_eats 86 = .ok (.aload_n 0, 1) := by decide +kernel
theorem dX11_eats_87 : decode cX11_eats 87 = .ok (.iload_n 1, 1) := by decide +kernel
theorem dX11_eats_88 : decode cX11_eats 88 = .ok (.invokevirtual 112, 3) := by decide +kernel
theorem dX11_eats_91 : decode cX11_eats 91 = .ok (.goto 4, 3) := by decide +kernel
theorem dX11_eats_94 : decode cX11_eats 94 = .ok (.iconst (-1), 1) := by decide +kernel
theorem dX11_eats_95 : decode cX11_eats 95 = .ok (.istore 4, 2) := by decide +kernel
theorem dX11_eats_97 : decode cX11_eats 97 = .ok (.iload 4, 2) := by decide +kernel
theorem dX11_eats_99 : decode cX11_eats 99 = .ok (.iconst (-1), 1) := by decide +kernel
theorem dX11_eats_100 : decode cX11_eats 100 = .ok (.if_icmp .eq 13, 3) := by decide +kernel
theorem dX11_eats_103 : decode cX11_eats 103 = .ok (.aload_n 0, 1) := by decide +kernel
theorem dX11_eats_104 : decode cX11_eats 104 = .ok (.iload_n 1, 1) := by decide +kernel
theorem dX11_eats_105 : decode cX11_eats 105 = .ok (.iload 4, 2) := by decide +kernel
theorem dX11_eats_107 : decode cX11_eats 107 = .ok (.invokevirtual 115, 3) := by decide +kernel
theorem dX11_eats_110 : decode cX11_eats 110 = .ok (.goto 13, 3) := by decide +kernel
theorem dX11_eats_113 : decode cX11_eats 113 = .ok (.aload_n 0, 1) := by decide +kernel
theorem dX11_eats_114 : decode cX11_eats 114 = .ok (.iload_n 1, 1) := by decide +kernel
theorem dX11_eats_115 : decode cX11_eats 115 = .ok (.iload_n 2, 1) := by decide +kernel
theorem dX11_eats_116 : decode cX11_eats 116 = .ok (.iconst 1, 1) := by decide +kernel
theorem dX11_eats_117 : decode cX11_eats 117 = .ok (.iadd, 1) := by decide +kernel
theorem dX11_eats_118 : decode cX11_eats 118 = .ok (.iconst 2, 1) := by decide +kernel
theorem dX11_eats_119 : decode cX11_eats 119 = .ok (.idiv, 1) := by decide +kernel
theorem dX11_eats_120 : decode cX11_eats 120 = .ok (.invokevirtual 106, 3) := by decide +kernel
theorem dX11_eats_123 : decode cX11_eats 123 = .ok (.return_, 1) := by decide +kernel
theorem dX11_breeds_0 : decode cX11_breeds 0 = .ok (.aload_n 0, 1) := by decide +kernel
theorem dX11_breeds_1 : decode cX11_breeds 1 = .ok (.iload_n 1, 1) := by decide +kernel
theorem dX11_breeds_2 : decode cX11_breeds 2 = .ok (.bipush 8, 2) := by decide +kernel
theorem dX11_breeds_4 : decode cX11_breeds 4 = .ok (.invokevirtual 99, 3) := by decide +kernel
theorem dX11_breeds_7 : decode cX11_breeds 7 = .ok (.iconst 2, 1) := by decide +kernel
theorem dX11_breeds_8 : decode cX11_breeds 8 = .ok (.idiv, 1) := by decide +kernel
theorem dX11_breeds_9 : decode cX11_breeds 9 = .ok (.bipush 99, 2) := by decide +kernel
theorem dX11_breeds_11 : decode cX11_breeds 11 = .ok (.aload_n 0, 1) := by decide +kernel
theorem dX11_breeds_12 : decode cX11_breeds 12 = .ok (.iload_n 1, 1) := by decide +kernel
theorem dX11_breeds_13 : decode cX11_breeds 13 = .ok (.bipush 8, 2) := by decide +kernel
theorem dX11_breeds_15 : decode cX11_breeds 15 = .ok (.invokevirtual 99, 3) := by decide +kernel
theorem dX11_breeds_18 : decode cX11_breeds 18 = .ok (.isub, 1) := by decide +kernel
theorem dX11_breeds_19 : decode cX11_breeds 19 = .ok (.invokestatic 109, 3) := by decide +kernel
theorem dX11_breeds_22 : decode cX11_breeds 22 = .ok (.istore_n 2, 1) := by decide +kernel
theorem dX11_breeds_23 : decode cX11_breeds 23 = .ok (.aload_n 0, 1) := by decide +kernel
theorem dX11_breeds_24 : decode cX11_breeds 24 = .ok (.iload_n 1, 1) := by decide +kernel
theorem dX11_breeds_25 : decode cX11_breeds 25 = .ok (.bipush 8, 2) := by decide +kernel
theorem dX11_breeds_27 : decode cX11_breeds 27 = .ok (.aload_n 0, 1) := by decide +kernel
theorem dX11_breeds_28 : decode cX11_breeds 28 = .ok (.iload_n 1, 1) := by decide +kernel
theorem dX11_breeds_29 : decode cX11_breeds 29 = .ok (.bipush 8, 2) := by decide +kernel
theorem dX11_breeds_31 : decode cX11_breeds 31 = .ok (.invokevirtual 99, 3) := by decide +kernel
theorem dX11_breeds_34 : decode cX11_breeds 34 = .ok (.iload_n 2, 1) := by decide +kernel
theorem dX11_breeds_35 : decode cX11_breeds 35 = .ok (.iadd, 1) := by decide +kernel
theorem dX11_breeds_36 : decode cX11_breeds 36 = .ok (.invokevirtual 72, 3) := by decide +kernel
theorem dX11_breeds_39 : decode cX11_breeds 39 = .ok (.aload_n 0, 1) := by decide +kernel
theorem dX11_breeds_40 : decode cX11_breeds 40 = .ok (.getfield 7, 3) := by decide +kernel
theorem dX11_breeds_43 : decode cX11_breeds 43 = .ok (.bipush 10, 2) := by decide +kernel
theorem dX11_breeds_45 : decode cX11_breeds 45 = .ok (.dup2, 1) := by decide +kernel
theorem dX11_breeds_46 : decode cX11_breeds 46 = .ok (.iaload, 1) := by decide +kernel
theorem dX11_breeds_47 : decode cX11_breeds 47 = .ok (.iload_n 2, 1) := by decide +kernel
theorem dX11_breeds_48 : decode cX11_breeds 48 = .ok (.iadd, 1) := by decide +kernel
theorem dX11_breeds_49 : decode cX11_breeds 49 = .ok (.iastore, 1) := by decide +kernel
theorem dX11_breeds_50 : decode cX11_breeds 50 = .ok (.return_, 1) := by decide +kernel
theorem dX11_hunted_0 : decode cX11_hunted 0 = .ok (.iconst (-1), 1) := by decide +kernel
theorem dX11_hunted_1 : decode cX11_hunted 1 = .ok (.istore_n 1, 1) := by decide +kernel
theorem dX11_hunted_2 : decode cX11_hunted 2 = .ok (.iconst 0, 1) := by decide +kernel
theorem dX11_hunted_3 : decode cX11_hunted 3 = .ok (.istore_n 2, 1) := by decide +kernel
theorem dX11_hunted_4 : decode cX11_hunted 4 = .ok (.iload_n 2, 1) := by decide +kernel
theorem dX11_hunted_5 : decode cX11_hunted 5 = .ok (.aload_n 0, 1) := by decide +kernel
theorem dX11_hunted_6 : decode cX11_hunted 6 = .ok (.getfield 7, 3) := by decide +kernel
theorem dX11_hunted_9 : decode cX11_hunted 9 = .ok (.iconst 1, 1) := by decide +kernel
theorem dX11_hunted_10 : decode cX11_hunted 10 = .ok (.iaload, 1) := by decide +kernel
theorem dX11_hunted_11 : decode cX11_hunted 11 = .ok (.if_icmp .ge 54, 3) := by decide +kernel
theorem dX11_hunted_14 : decode cX11_hunted 14 = .ok (.aload_n 0, 1) := by decide +kernel
theorem dX11_hunted_15 : decode cX11_hunted 15 = .ok (.iload_n 2, 1) := by decide +kernel
theorem dX11_hunted_16 : decode cX11_hunted 16 = .ok (.invokevirtual 102, 3) := by decide +kernel
theorem dX11_hunted_19 : decode cX11_hunted 19 = .ok (.ifCond .eq 40, 3) := by decide +kernel
theorem dX11_hunted_22 : decode cX11_hunted 22 = .ok (.aload_n 0, 1) := by decide +kernel
theorem dX11_hunted_23 : decode cX11_hunted 23 = .ok (.iload_n 2, 1) := by decide +kernel
theorem dX11_hunted_24 : decode cX11_hunted 24 = .ok (.bipush 8, 2) := by decide +kernel
theorem dX11_hunted_26 : decode cX11_hunted 26 = .ok (.invokevirtual 99, 3) := by decide +kernel
theorem dX11_hunted_29 : decode cX11_hunted 29 = .ok (.ifCond .ne 6, 3) := by decide +kernel
theorem dX11_hunted_32 : decode cX11_hunted 32 = .ok (.goto 27, 3) := by decide +kernel
theorem dX11_hunted_35 : decode cX11_hunted 35 = .ok (.iload_n 1, 1) := by decide +kernel
theorem dX11_hunted_36 : decode cX11_hunted 36 = .ok (.iconst (-1), 1) := by decide +kernel
theorem dX11_hunted_37 : decode cX11_hunted 37 = .ok (.if_icmp .eq 20, 3) := by decide +kernel
theorem dX11_hunted_40 : decode cX11_hunted 40 = .ok (.aload_n 0, 1) := by decide +kernel
theorem dX11_hunted_41 : decode cX11_hunted 41 = .ok (.iload_n 2, 1) := by decide +kernel
theorem dX11_hunted_42 : decode cX11_hunted 42 = .ok (.bipush 8, 2) := by decide +kernel
theorem dX11_hunted_44 : decode cX11_hunted 44 = .ok (.invokevirtual 99, 3) := by decide +kernel
theorem dX11_hunted_47 : decode cX11_hunted 47 = .ok (.aload_n 0, 1) := by decide +kernel
theorem dX11_hunted_48 : decode cX11_hunted 48 = .ok (.iload_n 1, 1) := by decide +kernel
theorem dX11_hunted_49 : decode cX11_hunted 49 = .ok (.bipush 8, 2) := by decide +kernel
theorem dX11_hunted_51 : decode cX11_hunted 51 = .ok (.invokevirtual 99, 3) := by decide +kernel
theorem dX11_hunted_54 : decode cX11_hunted 54 = .ok (.if_icmp .le 5, 3) := by decide +kernel
theorem dX11_hunted_57 : decode cX11_hunted 57 = .ok (.iload_n 2, 1) := by decide +kernel
theorem dX11_hunted_58 : decode cX11_hunted 58 = .ok (.istore_n 1, 1) := by decide +kernel
theorem dX11_hunted_59 : decode cX11_hunted 59 = .ok (.iinc 2 1, 3) := by decide +kernel
theorem dX11_hunted_62 : decode cX11_hunted 62 = .ok (.goto (-58), 3) := by decide +kernel
theorem dX11_hunted_65 : decode cX11_hunted 65 = .ok (.iload_n 1, 1) := by decide +kernel
theorem dX11_hunted_66 : decode cX11_hunted 66 = .ok (.ireturn, 1) := by decide +kernel
theorem dX11_hunts_0 : decode cX11_hunts 0 = .ok (.aload_n 0, 1) := by decide +kernel
theorem dX11_hunts_1 : decode cX11_hunts 1 = .ok (.getfield 7, 3) := by decide +kernel
theorem dX11_hunts_4 : decode cX11_hunts 4 = .ok (.iconst 5, 1) := by decide +kernel
theorem dX11_hunts_5 : decode cX11_hunts 5 = .ok (.iaload, 1) := by decide +kernel
theorem dX11_hunts_6 : decode cX11_hunts 6 = .ok (.istore_n 1, 1) := by decide +kernel
theorem dX11_hunts_7 : decode cX11_hunts 7 = .ok (.aload_n 0, 1) := by decide +kernel
theorem dX11_hunts_8 : decode cX11_hunts 8 = .ok (.invokevirtual 118, 3) := by decide +kernel
theorem dX11_hunts_11 : decode cX11_hunts 11 = .ok (.istore_n 2, 1) := by decide +kernel
theorem dX11_hunts_12 : decode cX11_hunts 12 = .ok (.iload_n 1, 1) := by decide +kernel
theorem dX11_hunts_13 : decode cX11_hunts 13 = .ok (.iconst (-1), 1) := by decide +kernel
theorem dX11_hunts_14 : decode cX11_hunts 14 = .ok (.if_icmp .eq 8, 3) := by decide +kernel
theorem dX11_hunts_17 : decode cX11_hunts 17 = .ok (.iload_n 2, 1) := by decide +kernel
theorem dX11_hunts_18 : decode cX11_hunts 18 = .ok (.iconst (-1), 1) := by decide +kernel
theorem dX11_hunts_19 : decode cX11_hunts 19 = .ok (.if_icmp .ne 5, 3) := by decide +kernel
theorem dX11_hunts_22 : decode cX11_hunts 22 = .ok (.iconst (-1), 1) := by decide +kernel
theorem dX11_hunts_23 : decode cX11_hunts 23 = .ok (.ireturn, 1) := by decide +kernel
theorem dX11_hunts_24 : decode cX11_hunts 24 = .ok (.aload_n 0, 1) := by decide +kernel
theorem dX11_hunts_25 : decode cX11_hunts 25 = .ok (.iload_n 1, 1) := by decide +kernel
theorem dX11_hunts_26 : decode cX11_hunts 26 = .ok (.invokevirtual 122, 3) := by decide +kernel
theorem dX11_hunts_29 : decode cX11_hunts 29 = .ok (.aload_n 0, 1) := by decide +kernel
theorem dX11_hunts_30 : decode cX11_hunts 30 = .ok (.iload_n 2, 1) := by decide +kernel
theorem dX11_hunts_31 : decode cX11_hunts 31 = .ok (.bipush 8, 2) := by decide +kernel
theorem dX11_hunts_33 : decode cX11_hunts 33 = .ok (.invokevirtual 99, 3) := by decide +kernel
theorem dX11_hunts_36 : decode cX11_hunts 36 = .ok (.invokestatic 109, 3) := by decide +kernel
theorem dX11_hunts_39 : decode cX11_hunts 39 = .ok (.istore_n 3, 1) := by decide +kernel
theorem dX11_hunts_40 : decode cX11_hunts 40 = .ok (.aload_n 0, 1) := by decide +kernel
theorem dX11_hunts_41 : decode cX11_hunts 41 = .ok (.iload_n 2, 1) := by decide +kernel
theorem dX11_hunts_42 : decode cX11_hunts 42 = .ok (.bipush 8, 2) := by decide +kernel
theorem dX11_hunts_44 : decode cX11_hunts 44 = .ok (.aload_n 0, 1) := by decide +kernel
theorem dX11_hunts_45 : decode cX11_hunts 45 = .ok (.iload_n 2, 1) := by decide +kernel
theorem dX11_hunts_46 : decode cX11_hunts 46 = .ok (.bipush 8, 2) := by decide +kernel
theorem dX11_hunts_48 : decode cX11_hunts 48 = .ok (.invokevirtual 99, 3) := by decide +kernel
theorem dX11_hunts_51 : decode cX11_hunts 51 = .ok (.iload_n 3, 1) := by decide +kernel
theorem dX11_hunts_52 : decode cX11_hunts 52 = .ok (.isub, 1) := by decide +kernel
theorem dX11_hunts_53 : decode cX11_hunts 53 = .ok (.invokevirtual 72, 3) := by decide +kernel
theorem dX11_hunts_56 : decode cX11_hunts 56 = .ok (.aload_n 0, 1) := by decide +kernel
theorem dX11_hunts_57 : decode cX11_hunts 57 = .ok (.iload_n 1, 1) := by decide +kernel
theorem dX11_hunts_58 : decode cX11_hunts 58 = .ok (.bipush 10, 2) := by decide +kernel
theorem dX11_hunts_60 : decode cX11_hunts 60 = .ok (.aload_n 0, 1) := by decide +kernel
theorem dX11_hunts_61 : decode cX11_hunts 61 = .ok (.iload_n 1, 1) := by decide +kernel
theorem dX11_hunts_62 : decode cX11_hunts 62 = .ok (.bipush 10, 2) := by decide +kernel
theorem dX11_hunts_64 : decode cX11_hunts 64 = .ok (.invokevirtual 90, 3) := by decide +kernel
theorem dX11_hunts_67 : decode cX11_hunts 67 = .ok (.iload_n 3, 1) := by decide +kernel
theorem dX11_hunts_68 : decode cX11_hunts 68 = .ok (.iadd, 1) := by decide +kernel
theorem dX11_hunts_69 : decode cX11_hunts 69 = .ok (.invokevirtual 69, 3) := by decide +kernel
theorem dX11_hunts_72 : decode cX11_hunts 72 = .ok (.aload_n 0, 1) := by decide +kernel
theorem dX11_hunts_73 : decode cX11_hunts 73 = .ok (.getfield 7, 3) := by decide +kernel
theorem dX11_hunts_76 : decode cX11_hunts 76 = .ok (.bipush 8, 2) := by decide +kernel
theorem dX11_hunts_78 : decode cX11_hunts 78 = .ok (.dup2, 1) := by decide +kernel
theorem dX11_hunts_79 : decode cX11_hunts 79 = .ok (.iaload, 1) := by decide +kernel
theorem dX11_hunts_80 : decode cX11_hunts 80 = .ok (.iload_n 3, 1) := by decide +kernel
theorem dX11_hunts_81 : decode cX11_hunts 81 = .ok (.iadd, 1) := by decide +kernel
theorem dX11_hunts_82 : decode cX11_hunts 82 = .ok (.iastore, 1) := by decide +kernel
theorem dX11_hunts_83 : decode cX11_hunts 83 = .ok (.aload_n 0, 1) := by decide +kernel
theorem dX11_hunts_84 : decode cX11_hunts 84 = .ok (.iload_n 1, 1) := by decide +kernel
theorem dX11_hunts_85 : decode cX11_hunts 85 = .ok (.bipush 9, 2) := by decide +kernel
theorem dX11_hunts_87 : decode cX11_hunts 87 = .ok (.bipush 20, 2) := by decide +kernel
theorem dX11_hunts_89 : decode cX11_hunts 89 = .ok (.aload_n 0, 1) := by decide +kernel
theorem dX11_hunts_90 : decode cX11_hunts 90 = .ok (.iload_n 1, 1) := by decide +kernel
theorem dX11_hunts_91 : decode cX11_hunts 91 = .ok (.bipush 9, 2) := by decide +kernel
theorem dX11_hunts_93 : decode cX11_hunts 93 = .ok (.invokevirtual 90, 3) := by decide +kernel
theorem dX11_hunts_96 : decode cX11_hunts 96 = .ok (.iconst 1, 1) := by decide +kernel
theorem dX11_hunts_97 : decode cX11_hunts 97 = .ok (.iadd, 1) := by decide +kernel
theorem dX11_hunts_98 : decode cX11_hunts 98 = .ok (.invokestatic 109, 3) := by decide +kernel
theorem dX11_hunts_101 : decode cX11_hunts 101 = .ok (.invokevirtual 69, 3) := by decide +kernel
theorem dX11_hunts_104 : decode cX11_hunts 104 = .ok (.aload_n 0, 1) := by decide +kernel
theorem dX11_hunts_105 : decode cX11_hunts 105 = .ok (.iconst 1, 1) := by decide +kernel
theorem dX11_hunts_106 : decode cX11_hunts 106 = .ok (.iload_n 1, 1) := by decide +kernel
theorem dX11_hunts_107 : decode cX11_hunts 107 = .ok (.iload_n 3, 1) := by decide +kernel
theorem dX11_hunts_108 : decode cX11_hunts 108 = .ok (.invokevirtual 125, 3) := by decide +kernel
theorem dX11_hunts_111 : decode cX11_hunts 111 = .ok (.iload_n 1, 1) := by decide +kernel
theorem dX11_hunts_112 : decode cX11_hunts 112 = .ok (.ireturn, 1) := by decide +kernel
theorem dX11_swears_0 : decode cX11_swears 0 = .ok (.aload_n 0, 1) := by decide +kernel
theorem dX11_swears_1 : decode cX11_swears 1 = .ok (.getfield 7, 3) := by decide +kernel
theorem dX11_swears_4 : decode cX11_swears 4 = .ok (.iconst 5, 1) := by decide +kernel
theorem dX11_swears_5 : decode cX11_swears 5 = .ok (.iaload, 1) := by decide +kernel
theorem dX11_swears_6 : decode cX11_swears 6 = .ok (.istore_n 2, 1) := by decide +kernel
theorem dX11_swears_7 : decode cX11_swears 7 = .ok (.iload_n 2, 1) := by decide +kernel
theorem dX11_swears_8 : decode cX11_swears 8 = .ok (.iconst (-1), 1) := by decide +kernel
theorem dX11_swears_9 : decode cX11_swears 9 = .ok (.if_icmp .ne 4, 3) := by decide +kernel
theorem dX11_swears_12 : decode cX11_swears 12 = .ok (.return_, 1) := by decide +kernel
theorem dX11_swears_13 : decode cX11_swears 13 = .ok (.aload_n 0, 1) := by decide +kernel
theorem dX11_swears_14 : decode cX11_swears 14 = .ok (.iload_n 1, 1) := by decide +kernel
theorem dX11_swears_15 : decode cX11_swears 15 = .ok (.invokevirtual 128, 3) := by decide +kernel
theorem dX11_swears_18 : decode cX11_swears 18 = .ok (.ifCond .eq 24, 3) := by decide +kernel
theorem dX11_swears_21 : decode cX11_swears 21 = .ok (.aload_n 0, 1) := by decide +kernel
theorem dX11_swears_22 : decode cX11_swears 22 = .ok (.iload_n 1, 1) := by decide +kernel
theorem dX11_swears_23 : decode cX11_swears 23 = .ok (.invokevirtual 131, 3) := by decide +kernel
theorem dX11_swears_26 : decode cX11_swears 26 = .ok (.ifCond .eq 16, 3) := by decide +kernel
theorem dX11_swears_29 : decode cX11_swears 29 = .ok (.aload_n 0, 1) := by decide +kernel
theorem dX11_swears_30 : decode cX11_swears 30 = .ok (.iload_n 1, 1) := by decide +kernel
theorem dX11_swears_31 : decode cX11_swears 31 = .ok (.invokevirtual 86, 3) := by decide +kernel
theorem dX11_swears_34 : decode cX11_swears 34 = .ok (.aload_n 0, 1) := by decide +kernel
theorem dX11_swears_35 : decode cX11_swears 35 = .ok (.iconst 2, 1) := by decide +kernel
theorem dX11_swears_36 : decode cX11_swears 36 = .ok (.iload_n 1, 1) := by decide +kernel
theorem dX11_swears_37 : decode cX11_swears 37 = .ok (.iload_n 2, 1) := by decide +kernel
theorem dX11_swears_38 : decode cX11_swears 38 = .ok (.invokevirtual 125, 3) := by decide +kernel
theorem dX11_swears_41 : decode cX11_swears 41 = .ok (.return_, 1) := by decide +kernel
theorem dX11_swears_42 : decode cX11_swears 42 = .ok (.aload_n 0, 1) := by decide +kernel
theorem dX11_swears_43 : decode cX11_swears 43 = .ok (.getfield 7, 3) := by decide +kernel
theorem dX11_swears_46 : decode cX11_swears 46 = .ok (.iconst 5, 1) := by decide +kernel
theorem dX11_swears_47 : decode cX11_swears 47 = .ok (.iconst (-1), 1) := by decide +kernel
theorem dX11_swears_48 : decode cX11_swears 48 = .ok (.iastore, 1) := by decide +kernel
theorem dX11_swears_49 : decode cX11_swears 49 = .ok (.aload_n 0, 1) := by decide +kernel
theorem dX11_swears_50 : decode cX11_swears 50 = .ok (.getfield 7, 3) := by decide +kernel
theorem dX11_swears_53 : decode cX11_swears 53 = .ok (.bipush 13, 2) := by decide +kernel
theorem dX11_swears_55 : decode cX11_swears 55 = .ok (.dup2, 1) := by decide +kernel
theorem dX11_swears_56 : decode cX11_swears 56 = .ok (.iaload, 1) := by decide +kernel
theorem dX11_swears_57 : decode cX11_swears 57 = .ok (.iconst 1, 1) := by decide +kernel
theorem dX11_swears_58 : decode cX11_swears 58 = .ok (.iadd, 1) := by decide +kernel
theorem dX11_swears_59 : decode cX11_swears 59 = .ok (.iastore, 1) := by decide +kernel
theorem dX11_swears_60 : decode cX11_swears 60 = .ok (.aload_n 0, 1) := by decide +kernel
theorem dX11_swears_61 : decode cX11_swears 61 = .ok (.iconst 3, 1) := by decide +kernel
theorem dX11_swears_62 : decode cX11_swears 62 = .ok (.iload_n 1, 1) := by decide +kernel
theorem dX11_swears_63 : decode cX11_swears 63 = .ok (.iload_n 2, 1) := by decide +kernel
theorem dX11_swears_64 : decode cX11_swears 64 = .ok (.invokevirtual 125, 3) := by decide +kernel
theorem dX11_swears_67 : decode cX11_swears 67 = .ok (.return_, 1) := by decide +kernel
theorem dX11_shiftGoes_0 : decode cX11_shiftGoes 0 = .ok (.aload_n 0, 1) := by decide +kernel
theorem dX11_shiftGoes_1 : decode cX11_shiftGoes 1 = .ok (.getfield 7, 3) := by decide +kernel
theorem dX11_shiftGoes_4 : decode cX11_shiftGoes 4 = .ok (.bipush 7, 2) := by decide +kernel
theorem dX11_shiftGoes_6 : decode cX11_shiftGoes 6 = .ok (.dup2, 1) := by decide +kernel
theorem dX11_shiftGoes_7 : decode cX11_shiftGoes 7 = .ok (.iaload, 1) := by decide +kernel
theorem dX11_shiftGoes_8 : decode cX11_shiftGoes 8 = .ok (.iconst 1, 1) := by decide +kernel
theorem dX11_shiftGoes_9 : decode cX11_shiftGoes 9 = .ok (.isub, 1) := by decide +kernel
theorem dX11_shiftGoes_10 : decode cX11_shiftGoes 10 = .ok (.iastore, 1) := by decide +kernel
theorem dX11_shiftGoes_11 : decode cX11_shiftGoes 11 = .ok (.aload_n 0, 1) := by decide +kernel
theorem dX11_shiftGoes_12 : decode cX11_shiftGoes 12 = .ok (.getfield 7, 3) := by decide +kernel
theorem dX11_shiftGoes_15 : decode cX11_shiftGoes 15 = .ok (.bipush 7, 2) := by decide +kernel
theorem dX11_shiftGoes_17 : decode cX11_shiftGoes 17 = .ok (.iaload, 1) := by decide +kernel
theorem dX11_shiftGoes_18 : decode cX11_shiftGoes 18 = .ok (.ifCond .le 4, 3) := by decide +kernel
theorem dX11_shiftGoes_21 : decode cX11_shiftGoes 21 = .ok (.return_, 1) := by decide +kernel
theorem dX11_shiftGoes_22 : decode cX11_shiftGoes 22 = .ok (.aload_n 0, 1) := by decide +kernel
theorem dX11_shiftGoes_23 : decode cX11_shiftGoes 23 = .ok (.getfield 7, 3) := by decide +kernel
theorem dX11_shiftGoes_26 : decode cX11_shiftGoes 26 = .ok (.bipush 6, 2) := by decide +kernel
theorem dX11_shiftGoes_28 : decode cX11_shiftGoes 28 = .ok (.aload_n 0, 1) := by decide +kernel
theorem dX11_shiftGoes_29 : decode cX11_shiftGoes 29 = .ok (.getfield 7, 3) := by decide +kernel
theorem dX11_shiftGoes_32 : decode cX11_shiftGoes 32 = .ok (.bipush 6, 2) := by decide +kernel
theorem dX11_shiftGoes_34 : decode cX11_shiftGoes 34 = .ok (.iaload, 1) := by decide +kernel
theorem dX11_shiftGoes_35 : decode cX11_shiftGoes 35 = .ok (.iconst 1, 1) := by decide +kernel
theorem dX11_shiftGoes_36 : decode cX11_shiftGoes 36 = .ok (.iadd, 1) := by decide +kernel
theorem dX11_shiftGoes_37 : decode cX11_shiftGoes 37 = .ok (.aload_n 0, 1) := by decide +kernel
theorem dX11_shiftGoes_38 : decode cX11_shiftGoes 38 = .ok (.getfield 7, 3) := by decide +kernel
theorem dX11_shiftGoes_41 : decode cX11_shiftGoes 41 = .ok (.iconst 2, 1) := by decide +kernel
theorem dX11_shiftGoes_42 : decode cX11_shiftGoes 42 = .ok (.iaload, 1) := by decide +kernel
theorem dX11_shiftGoes_43 : decode cX11_shiftGoes 43 = .ok (.irem, 1) := by decide +kernel
theorem dX11_shiftGoes_44 : decode cX11_shiftGoes 44 = .ok (.iastore, 1) := by decide +kernel
theorem dX11_shiftGoes_45 : decode cX11_shiftGoes 45 = .ok (.aload_n 0, 1) := by decide +kernel
theorem dX11_shiftGoes_46 : decode cX11_shiftGoes 46 = .ok (.getfield 7, 3) := by decide +kernel
theorem dX11_shiftGoes_49 : decode cX11_shiftGoes 49 = .ok (.bipush 7, 2) := by decide +kernel
theorem dX11_shiftGoes_51 : decode cX11_shiftGoes 51 = .ok (.aload_n 0, 1) := by decide +kernel
theorem dX11_shiftGoes_52 : decode cX11_shiftGoes 52 = .ok (.aload_n 0, 1) := by decide +kernel
theorem dX11_shiftGoes_53 : decode cX11_shiftGoes 53 = .ok (.getfield 7, 3) := by decide +kernel
theorem dX11_shiftGoes_56 : decode cX11_shiftGoes 56 = .ok (.bipush 6, 2) := by decide +kernel
theorem dX11_shiftGoes_58 : decode cX11_shiftGoes 58 = .ok (.iaload, 1) := by decide +kernel
theorem dX11_shiftGoes_59 : decode cX11_shiftGoes 59 = .ok (.invokevirtual 79, 3) := by decide +kernel
theorem dX11_shiftGoes_62 : decode cX11_shiftGoes 62 = .ok (.iastore, 1) := by decide +kernel
theorem dX11_shiftGoes_63 : decode cX11_shiftGoes 63 = .ok (.aload_n 0, 1) := by decide +kernel
theorem dX11_shiftGoes_64 : decode cX11_shiftGoes 64 = .ok (.aload_n 0, 1) := by decide +kernel
theorem dX11_shiftGoes_65 : decode cX11_shiftGoes 65 = .ok (.aload_n 0, 1) := by decide +kernel
theorem dX11_shiftGoes_66 : decode cX11_shiftGoes 66 = .ok (.getfield 7, 3) := by decide +kernel
theorem dX11_shiftGoes_69 : decode cX11_shiftGoes 69 = .ok (.bipush 6, 2) := by decide +kernel
theorem dX11_shiftGoes_71 : decode cX11_shiftGoes 71 = .ok (.iaload, 1) := by decide +kernel
theorem dX11_shiftGoes_72 : decode cX11_shiftGoes 72 = .ok (.invokevirtual 83, 3) := by decide +kernel
theorem dX11_shiftGoes_75 : decode cX11_shiftGoes 75 = .ok (.invokevirtual 134, 3) := by decide +kernel
theorem dX11_shiftGoes_78 : decode cX11_shiftGoes 78 = .ok (.return_, 1) := by decide +kernel
theorem dX11_dawns_0 : decode cX11_dawns 0 = .ok (.iconst 0, 1) := by decide +kernel
theorem dX11_dawns_1 : decode cX11_dawns 1 = .ok (.istore_n 1, 1) := by decide +kernel
theorem dX11_dawns_2 : decode cX11_dawns 2 = .ok (.iload_n 1, 1) := by decide +kernel
theorem dX11_dawns_3 : decode cX11_dawns 3 = .ok (.aload_n 0, 1) := by decide +kernel
theorem dX11_dawns_4 : decode cX11_dawns 4 = .ok (.getfield 7, 3) := by decide +kernel
theorem dX11_dawns_7 : decode cX11_dawns 7 = .ok (.iconst 0, 1) := by decide +kernel
theorem dX11_dawns_8 : decode cX11_dawns 8 = .ok (.iaload, 1) := by decide +kernel
theorem dX11_dawns_9 : decode cX11_dawns 9 = .ok (.if_icmp .ge 20, 3) := by decide +kernel
theorem dX11_dawns_12 : decode cX11_dawns 12 = .ok (.aload_n 0, 1) := by decide +kernel
theorem dX11_dawns_13 : decode cX11_dawns 13 = .ok (.iload_n 1, 1) := by decide +kernel
theorem dX11_dawns_14 : decode cX11_dawns 14 = .ok (.aload_n 0, 1) := by decide +kernel
theorem dX11_dawns_15 : decode cX11_dawns 15 = .ok (.getfield 7, 3) := by decide +kernel
theorem dX11_dawns_18 : decode cX11_dawns 18 = .ok (.iconst 4, 1) := by decide +kernel
theorem dX11_dawns_19 : decode cX11_dawns 19 = .ok (.iaload, 1) := by decide +kernel
theorem dX11_dawns_20 : decode cX11_dawns 20 = .ok (.invokevirtual 137, 3) := by decide +kernel
theorem dX11_dawns_23 : decode cX11_dawns 23 = .ok (.iinc 1 1, 3) := by decide +kernel
theorem dX11_dawns_26 : decode cX11_dawns 26 = .ok (.goto (-24), 3) := by decide +kernel
theorem dX11_dawns_29 : decode cX11_dawns 29 = .ok (.aload_n 0, 1) := by decide +kernel
theorem dX11_dawns_30 : decode cX11_dawns 30 = .ok (.aload_n 0, 1) := by decide +kernel
theorem dX11_dawns_31 : decode cX11_dawns 31 = .ok (.getfield 7, 3) := by decide +kernel
theorem dX11_dawns_34 : decode cX11_dawns 34 = .ok (.bipush 6, 2) := by decide +kernel
theorem dX11_dawns_36 : decode cX11_dawns 36 = .ok (.iaload, 1) := by decide +kernel
theorem dX11_dawns_37 : decode cX11_dawns 37 = .ok (.invokevirtual 83, 3) := by decide +kernel
theorem dX11_dawns_40 : decode cX11_dawns 40 = .ok (.istore_n 1, 1) := by decide +kernel
theorem dX11_dawns_41 : decode cX11_dawns 41 = .ok (.aload_n 0, 1) := by decide +kernel
theorem dX11_dawns_42 : decode cX11_dawns 42 = .ok (.getfield 7, 3) := by decide +kernel
theorem dX11_dawns_45 : decode cX11_dawns 45 = .ok (.iconst 5, 1) := by decide +kernel
theorem dX11_dawns_46 : decode cX11_dawns 46 = .ok (.iaload, 1) := by decide +kernel
theorem dX11_dawns_47 : decode cX11_dawns 47 = .ok (.iconst (-1), 1) := by decide +kernel
theorem dX11_dawns_48 : decode cX11_dawns 48 = .ok (.if_icmp .ne 15, 3) := by decide +kernel
theorem dX11_dawns_51 : decode cX11_dawns 51 = .ok (.aload_n 0, 1) := by decide +kernel
theorem dX11_dawns_52 : decode cX11_dawns 52 = .ok (.iload_n 1, 1) := by decide +kernel
theorem dX11_dawns_53 : decode cX11_dawns 53 = .ok (.invokevirtual 128, 3) := by decide +kernel
theorem dX11_dawns_56 : decode cX11_dawns 56 = .ok (.ifCond .eq 7, 3) := by decide +kernel
theorem dX11_dawns_59 : decode cX11_dawns 59 = .ok (.iconst 1, 1) := by decide +kernel
theorem dX11_dawns_60 : decode cX11_dawns 60 = .ok (.goto 4, 3) := by decide +kernel
theorem dX11_dawns_63 : decode cX11_dawns 63 = .ok (.iconst 0, 1) := by decide +kernel
theorem dX11_dawns_64 : decode cX11_dawns 64 = .ok (.istore_n 2, 1) := by decide +kernel
theorem dX11_dawns_65 : decode cX11_dawns 65 = .ok (.iload_n 2, 1) := by decide +kernel
theorem dX11_dawns_66 : decode cX11_dawns 66 = .ok (.ifCond .eq 8, 3) := by decide +kernel
theorem dX11_dawns_69 : decode cX11_dawns 69 = .ok (.aload_n 0, 1) := by decide +kernel
theorem dX11_dawns_70 : decode cX11_dawns 70 = .ok (.iload_n 1, 1) := by decide +kernel
theorem dX11_dawns_71 : decode cX11_dawns 71 = .ok (.invokevirtual 86, 3) := by decide +kernel
theorem dX11_dawns_74 : decode cX11_dawns 74 = .ok (.aload_n 0, 1) := by decide +kernel
theorem dX11_dawns_75 : decode cX11_dawns 75 = .ok (.iconst 4, 1) := by decide +kernel
theorem dX11_dawns_76 : decode cX11_dawns 76 = .ok (.iload_n 2, 1) := by decide +kernel
theorem dX11_dawns_77 : decode cX11_dawns 77 = .ok (.ifCond .eq 7, 3) := by decide +kernel
theorem dX11_dawns_80 : decode cX11_dawns 80 = .ok (.iload_n 1, 1) := by decide +kernel
theorem dX11_dawns_81 : decode cX11_dawns 81 = .ok (.goto 4, 3) := by decide +kernel
theorem dX11_dawns_84 : decode cX11_dawns 84 = .ok (.iconst (-1), 1) := by decide +kernel
theorem dX11_dawns_85 : decode cX11_dawns 85 = .ok (.aload_n 0, 1) := by decide +kernel
theorem dX11_dawns_86 : decode cX11_dawns 86 = .ok (.getfield 7, 3) := by decide +kernel
theorem dX11_dawns_89 : decode cX11_dawns 89 = .ok (.iconst 3, 1) := by decide +kernel
theorem dX11_dawns_90 : decode cX11_dawns 90 = .ok (.iaload, 1) := by decide +kernel
theorem dX11_dawns_91 : decode cX11_dawns 91 = .ok (.invokevirtual 125, 3) := by decide +kernel
theorem dX11_dawns_94 : decode cX11_dawns 94 = .ok (.return_, 1) := by decide +kernel
theorem dX11_hourPasses_0 : decode cX11_hourPasses 0 = .ok (.aload_n 0, 1) := by decide +kernel
theorem dX11_hourPasses_1 : decode cX11_hourPasses 1 = .ok (.getfield 7, 3) := by decide +kernel
theorem dX11_hourPasses_4 : decode cX11_hourPasses 4 = .ok (.iconst 3, 1) := by decide +kernel
theorem dX11_hourPasses_5 : decode cX11_hourPasses 5 = .ok (.dup2, 1) := by decide +kernel
theorem dX11_hourPasses_6 : decode cX11_hourPasses 6 = .ok (.iaload, 1) := by decide +kernel
theorem dX11_hourPasses_7 : decode cX11_hourPasses 7 = .ok (.iconst 1, 1) := by decide +kernel
theorem dX11_hourPasses_8 : decode cX11_hourPasses 8 = .ok (.iadd, 1) := by decide +kernel
theorem dX11_hourPasses_9 : decode cX11_hourPasses 9 = .ok (.iastore, 1) := by decide +kernel
theorem dX11_hourPasses_10 : decode cX11_hourPasses 10 = .ok (.iconst 0, 1) := by decide +kernel
theorem dX11_hourPasses_11 : decode cX11_hourPasses 11 = .ok (.istore_n 1, 1) := by decide +kernel
theorem dX11_hourPasses_12 : decode cX11_hourPasses 12 = .ok (.iload_n 1, 1) := by decide +kernel
theorem dX11_hourPasses_13 : decode cX11_hourPasses 13 = .ok (.aload_n 0, 1) := by decide +kernel
theorem dX11_hourPasses_14 : decode cX11_hourPasses 14 = .ok (.getfield 7, 3) := by decide +kernel
theorem dX11_hourPasses_17 : decode cX11_hourPasses 17 = .ok (.iconst 1, 1) := by decide +kernel
theorem dX11_hourPasses_18 : decode cX11_hourPasses 18 = .ok (.iaload, 1) := by decide +kernel
theorem dX11_hourPasses_19 : decode cX11_hourPasses 19 = .ok (.if_icmp .ge 14, 3) := by decide +kernel
theorem dX11_hourPasses_22 : decode cX11_hourPasses 22 = .ok (.aload_n 0, 1) := by decide +kernel
theorem dX11_hourPasses_23 : decode cX11_hourPasses 23 = .ok (.iload_n 1, 1) := by decide +kernel
theorem dX11_hourPasses_24 : decode cX11_hourPasses 24 = .ok (.invokevirtual 140, 3) := by decide +kernel
theorem dX11_hourPasses_27 : decode cX11_hourPasses 27 = .ok (.iinc 1 1, 3) := by decide +kernel
theorem dX11_hourPasses_30 : decode cX11_hourPasses 30 = .ok (.goto (-18), 3) := by decide +kernel
theorem dX11_hourPasses_33 : decode cX11_hourPasses 33 = .ok (.iconst 0, 1) := by decide +kernel
theorem dX11_hourPasses_34 : decode cX11_hourPasses 34 = .ok (.istore_n 1, 1) := by decide +kernel
theorem dX11_hourPasses_35 : decode cX11_hourPasses 35 = .ok (.iload_n 1, 1) := by decide +kernel
theorem dX11_hourPasses_36 : decode cX11_hourPasses 36 = .ok (.aload_n 0, 1) := by decide +kernel
theorem dX11_hourPasses_37 : decode cX11_hourPasses 37 = .ok (.getfield 7, 3) := by decide +kernel
theorem dX11_hourPasses_40 : decode cX11_hourPasses 40 = .ok (.iconst 1, 1) := by decide +kernel
theorem dX11_hourPasses_41 : decode cX11_hourPasses 41 = .ok (.iaload, 1) := by decide +kernel
theorem dX11_hourPasses_42 : decode cX11_hourPasses 42 = .ok (.if_icmp .ge 26, 3) := by decide +kernel
theorem dX11_hourPasses_45 : decode cX11_hourPasses 45 = .ok (.aload_n 0, 1) := by decide +kernel
theorem dX11_hourPasses_46 : decode cX11_hourPasses 46 = .ok (.getfield 7, 3) := by decide +kernel
theorem dX11_hourPasses_49 : decode cX11_hourPasses 49 = .ok (.iconst 3, 1) := by decide +kernel
theorem dX11_hourPasses_50 : decode cX11_hourPasses 50 = .ok (.iaload, 1) := by decide +kernel
theorem dX11_hourPasses_51 : decode cX11_hourPasses 51 = .ok (.bipush 24, 2) := by decide +kernel
theorem dX11_hourPasses_53 : decode cX11_hourPasses 53 = .ok (.irem, 1) := by decide +kernel
theorem dX11_hourPasses_54 : decode cX11_hourPasses 54 = .ok (.ifCond .ne 14, 3) := by decide +kernel
theorem dX11_hourPasses_57 : decode cX11_hourPasses 57 = .ok (.aload_n 0, 1) := by decide +kernel
theorem dX11_hourPasses_58 : decode cX11_hourPasses 58 = .ok (.iload_n 1, 1) := by decide +kernel
theorem dX11_hourPasses_59 : decode cX11_hourPasses 59 = .ok (.invokevirtual 143, 3) := by decide +kernel
theorem dX11_hourPasses_62 : decode cX11_hourPasses 62 = .ok (.iinc 1 1, 3) := by decide +kernel
theorem dX11_hourPasses_65 : decode cX11_hourPasses 65 = .ok (.goto (-30), 3) := by decide +kernel
theorem dX11_hourPasses_68 : decode cX11_hourPasses 68 = .ok (.aload_n 0, 1) := by decide +kernel
theorem dX11_hourPasses_69 : decode cX11_hourPasses 69 = .ok (.invokevirtual 146, 3) := by decide +kernel
theorem dX11_hourPasses_72 : decode cX11_hourPasses 72 = .ok (.istore_n 1, 1) := by decide +kernel
theorem dX11_hourPasses_73 : decode cX11_hourPasses 73 = .ok (.iconst 0, 1) := by decide +kernel
theorem dX11_hourPasses_74 : decode cX11_hourPasses 74 = .ok (.istore_n 2, 1) := by decide +kernel
theorem dX11_hourPasses_75 : decode cX11_hourPasses 75 = .ok (.iload_n 2, 1) := by decide +kernel
theorem dX11_hourPasses_76 : decode cX11_hourPasses 76 = .ok (.aload_n 0, 1) := by decide +kernel
theorem dX11_hourPasses_77 : decode cX11_hourPasses 77 = .ok (.getfield 7, 3) := by decide +kernel
theorem dX11_hourPasses_80 : decode cX11_hourPasses 80 = .ok (.iconst 0, 1) := by decide +kernel
theorem dX11_hourPasses_81 : decode cX11_hourPasses 81 = .ok (.iaload, 1) := by decide +kernel
theorem dX11_hourPasses_82 : decode cX11_hourPasses 82 = .ok (.if_icmp .ge 20, 3) := by decide +kernel
theorem dX11_hourPasses_85 : decode cX11_hourPasses 85 = .ok (.iload_n 2, 1) := by decide +kernel
theorem dX11_hourPasses_86 : decode cX11_hourPasses 86 = .ok (.iload_n 1, 1) := by decide +kernel
theorem dX11_hourPasses_87 : decode cX11_hourPasses 87 = .ok (.if_icmp .eq 9, 3) := by decide +kernel
theorem dX11_hourPasses_90 : decode cX11_hourPasses 90 = .ok (.aload_n 0, 1) := by decide +kernel
theorem dX11_hourPasses_91 : decode cX11_hourPasses 91 = .ok (.iload_n 2, 1) := by decide +kernel
theorem dX11_hourPasses_92 : decode cX11_hourPasses 92 = .ok (.iconst 1, 1) := by decide +kernel
theorem dX11_hourPasses_93 : decode cX11_hourPasses 93 = .ok (.invokevirtual 137, 3) := by decide +kernel
theorem dX11_hourPasses_96 : decode cX11_hourPasses 96 = .ok (.iinc 2 1, 3) := by decide +kernel
theorem dX11_hourPasses_99 : decode cX11_hourPasses 99 = .ok (.goto (-24), 3) := by decide +kernel
theorem dX11_hourPasses_102 : decode cX11_hourPasses 102 = .ok (.aload_n 0, 1) := by decide +kernel
theorem dX11_hourPasses_103 : decode cX11_hourPasses 103 = .ok (.invokevirtual 149, 3) := by decide +kernel
theorem dX11_hourPasses_106 : decode cX11_hourPasses 106 = .ok (.aload_n 0, 1) := by decide +kernel
theorem dX11_hourPasses_107 : decode cX11_hourPasses 107 = .ok (.getfield 7, 3) := by decide +kernel
theorem dX11_hourPasses_110 : decode cX11_hourPasses 110 = .ok (.iconst 3, 1) := by decide +kernel
theorem dX11_hourPasses_111 : decode cX11_hourPasses 111 = .ok (.iaload, 1) := by decide +kernel
theorem dX11_hourPasses_112 : decode cX11_hourPasses 112 = .ok (.bipush 24, 2) := by decide +kernel
theorem dX11_hourPasses_114 : decode cX11_hourPasses 114 = .ok (.irem, 1) := by decide +kernel
theorem dX11_hourPasses_115 : decode cX11_hourPasses 115 = .ok (.bipush 6, 2) := by decide +kernel
theorem dX11_hourPasses_117 : decode cX11_hourPasses 117 = .ok (.if_icmp .ne 7, 3) := by decide +kernel
theorem dX11_hourPasses_120 : decode cX11_hourPasses 120 = .ok (.aload_n 0, 1) := by decide +kernel
theorem dX11_hourPasses_121 : decode cX11_hourPasses 121 = .ok (.invokevirtual 152, 3) := by decide +kernel
theorem dX11_hourPasses_124 : decode cX11_hourPasses 124 = .ok (.return_, 1) := by decide +kernel
theorem dX11_passes_0 : decode cX11_passes 0 = .ok (.aload_n 0, 1) := by decide +kernel
theorem dX11_passes_1 : decode cX11_passes 1 = .ok (.getfield 7, 3) := by decide +kernel
theorem dX11_passes_4 : decode cX11_passes 4 = .ok (.bipush 8, 2) := by decide +kernel
theorem dX11_passes_6 : decode cX11_passes 6 = .ok (.iaload, 1) := by decide +kernel
theorem dX11_passes_7 : decode cX11_passes 7 = .ok (.istore_n 2, 1) := by decide +kernel
theorem dX11_passes_8 : decode cX11_passes 8 = .ok (.iconst 0, 1) := by decide +kernel
theorem dX11_passes_9 : decode cX11_passes 9 = .ok (.istore_n 3, 1) := by decide +kernel
theorem dX11_passes_10 : decode cX11_passes 10 = .ok (.iload_n 3, 1) := by decide +kernel
theorem dX11_passes_11 : decode cX11_passes 11 = .ok (.iload_n 1, 1) := by decide +kernel
theorem dX11_passes_12 : decode cX11_passes 12 = .ok (.if_icmp .ge 13, 3) := by decide +kernel
theorem dX11_passes_15 : decode cX11_passes 15 = .ok (.aload_n 0, 1) := by decide +kernel
theorem dX11_passes_16 : decode cX11_passes 16 = .ok (.invokevirtual 155, 3) := by decide +kernel
theorem dX11_passes_19 : decode cX11_passes 19 = .ok (.iinc 3 1, 3) := by decide +kernel
theorem dX11_passes_22 : decode cX11_passes 22 = .ok (.goto (-12), 3) := by decide +kernel
theorem dX11_passes_25 : decode cX11_passes 25 = .ok (.aload_n 0, 1) := by decide +kernel
theorem dX11_passes_26 : decode cX11_passes 26 = .ok (.getfield 7, 3) := by decide +kernel
theorem dX11_passes_29 : decode cX11_passes 29 = .ok (.bipush 8, 2) := by decide +kernel
theorem dX11_passes_31 : decode cX11_passes 31 = .ok (.iaload, 1) := by decide +kernel
theorem dX11_passes_32 : decode cX11_passes 32 = .ok (.iload_n 2, 1) := by decide +kernel
theorem dX11_passes_33 : decode cX11_passes 33 = .ok (.isub, 1) := by decide +kernel
theorem dX11_passes_34 : decode cX11_passes 34 = .ok (.ireturn, 1) := by decide +kernel
theorem dX11_openMany_0 : decode cX11_openMany 0 = .ok (.aload_n 0, 1) := by decide +kernel
theorem dX11_openMany_1 : decode cX11_openMany 1 = .ok (.sipush 161, 3) := by decide +kernel
theorem dX11_openMany_4 : decode cX11_openMany 4 = .ok (.iconst 1, 1) := by decide +kernel
theorem dX11_openMany_5 : decode cX11_openMany 5 = .ok (.bipush 9, 2) := by decide +kernel
theorem dX11_openMany_7 : decode cX11_openMany 7 = .ok (.invokevirtual 75, 3) := by decide +kernel
theorem dX11_openMany_10 : decode cX11_openMany 10 = .ok (.ireturn, 1) := by decide +kernel
theorem dX11_setsFlap_0 : decode cX11_setsFlap 0 = .ok (.aload_n 0, 1) := by decide +kernel
theorem dX11_setsFlap_1 : decode cX11_setsFlap 1 = .ok (.iload_n 1, 1) := by decide +kernel
theorem dX11_setsFlap_2 : decode cX11_setsFlap 2 = .ok (.bipush 9, 2) := by decide +kernel
theorem dX11_setsFlap_4 : decode cX11_setsFlap 4 = .ok (.iload_n 2, 1) := by decide +kernel
theorem dX11_setsFlap_5 : decode cX11_setsFlap 5 = .ok (.invokevirtual 72, 3) := by decide +kernel
theorem dX11_setsFlap_8 : decode cX11_setsFlap 8 = .ok (.aload_n 0, 1) := by decide +kernel
theorem dX11_setsFlap_9 : decode cX11_setsFlap 9 = .ok (.invokevirtual 158, 3) := by decide +kernel
theorem dX11_setsFlap_12 : decode cX11_setsFlap 12 = .ok (.ireturn, 1) := by decide +kernel
theorem dX11_mayAddMice_0 : decode cX11_mayAddMice 0 = .ok (.aload_n 0, 1) := by decide +kernel
theorem dX11_mayAddMice_1 : decode cX11_mayAddMice 1 = .ok (.iload_n 1, 1) := by decide +kernel
theorem dX11_mayAddMice_2 : decode cX11_mayAddMice 2 = .ok (.bipush 8, 2) := by decide +kernel
theorem dX11_mayAddMice_4 : decode cX11_mayAddMice 4 = .ok (.invokevirtual 99, 3) := by decide +kernel
theorem dX11_mayAddMice_7 : decode cX11_mayAddMice 7 = .ok (.iload_n 2, 1) := by decide +kernel
theorem dX11_mayAddMice_8 : decode cX11_mayAddMice 8 = .ok (.iadd, 1) := by decide +kernel
theorem dX11_mayAddMice_9 : decode cX11_mayAddMice 9 = .ok (.bipush 99, 2) := by decide +kernel
theorem dX11_mayAddMice_11 : decode cX11_mayAddMice 11 = .ok (.if_icmp .gt 7, 3) := by decide +kernel
theorem dX11_mayAddMice_14 : decode cX11_mayAddMice 14 = .ok (.iconst 1, 1) := by decide +kernel
theorem dX11_mayAddMice_15 : decode cX11_mayAddMice 15 = .ok (.goto 4, 3) := by decide +kernel
theorem dX11_mayAddMice_18 : decode cX11_mayAddMice 18 = .ok (.iconst 0, 1) := by decide +kernel
theorem dX11_mayAddMice_19 : decode cX11_mayAddMice 19 = .ok (.ireturn, 1) := by decide +kernel
theorem dX11_addsMice_0 : decode cX11_addsMice 0 = .ok (.aload_n 0, 1) := by decide +kernel
theorem dX11_addsMice_1 : decode cX11_addsMice 1 = .ok (.iload_n 1, 1) := by decide +kernel
theorem dX11_addsMice_2 : decode cX11_addsMice 2 = .ok (.bipush 8, 2) := by decide +kernel
theorem dX11_addsMice_4 : decode cX11_addsMice 4 = .ok (.aload_n 0, 1) := by decide +kernel
theorem dX11_addsMice_5 : decode cX11_addsMice 5 = .ok (.iload_n 1, 1) := by decide +kernel
theorem dX11_addsMice_6 : decode cX11_addsMice 6 = .ok (.bipush 8, 2) := by decide +kernel
theorem dX11_addsMice_8 : decode cX11_addsMice 8 = .ok (.invokevirtual 99, 3) := by decide +kernel
theorem dX11_addsMice_11 : decode cX11_addsMice 11 = .ok (.iload_n 2, 1) := by decide +kernel
theorem dX11_addsMice_12 : decode cX11_addsMice 12 = .ok (.iadd, 1) := by decide +kernel
theorem dX11_addsMice_13 : decode cX11_addsMice 13 = .ok (.invokevirtual 72, 3) := by decide +kernel
theorem dX11_addsMice_16 : decode cX11_addsMice 16 = .ok (.aload_n 0, 1) := by decide +kernel
theorem dX11_addsMice_17 : decode cX11_addsMice 17 = .ok (.getfield 7, 3) := by decide +kernel
theorem dX11_addsMice_20 : decode cX11_addsMice 20 = .ok (.bipush 14, 2) := by decide +kernel
theorem dX11_addsMice_22 : decode cX11_addsMice 22 = .ok (.dup2, 1) := by decide +kernel
theorem dX11_addsMice_23 : decode cX11_addsMice 23 = .ok (.iaload, 1) := by decide +kernel
theorem dX11_addsMice_24 : decode cX11_addsMice 24 = .ok (.iload_n 2, 1) := by decide +kernel
theorem dX11_addsMice_25 : decode cX11_addsMice 25 = .ok (.iadd, 1) := by decide +kernel
theorem dX11_addsMice_26 : decode cX11_addsMice 26 = .ok (.iastore, 1) := by decide +kernel
theorem dX11_addsMice_27 : decode cX11_addsMice 27 = .ok (.aload_n 0, 1) := by decide +kernel
theorem dX11_addsMice_28 : decode cX11_addsMice 28 = .ok (.iload_n 1, 1) := by decide +kernel
theorem dX11_addsMice_29 : decode cX11_addsMice 29 = .ok (.bipush 8, 2) := by decide +kernel
theorem dX11_addsMice_31 : decode cX11_addsMice 31 = .ok (.invokevirtual 99, 3) := by decide +kernel
theorem dX11_addsMice_34 : decode cX11_addsMice 34 = .ok (.ireturn, 1) := by decide +kernel
theorem dX11_mayAddGrain_0 : decode cX11_mayAddGrain 0 = .ok (.aload_n 0, 1) := by decide +kernel
theorem dX11_mayAddGrain_1 : decode cX11_mayAddGrain 1 = .ok (.iload_n 1, 1) := by decide +kernel
theorem dX11_mayAddGrain_2 : decode cX11_mayAddGrain 2 = .ok (.bipush 7, 2) := by decide +kernel
theorem dX11_mayAddGrain_4 : decode cX11_mayAddGrain 4 = .ok (.invokevirtual 99, 3) := by decide +kernel
theorem dX11_mayAddGrain_7 : decode cX11_mayAddGrain 7 = .ok (.iload_n 2, 1) := by decide +kernel
theorem dX11_mayAddGrain_8 : decode cX11_mayAddGrain 8 = .ok (.iadd, 1) := by decide +kernel
theorem dX11_mayAddGrain_9 : decode cX11_mayAddGrain 9 = .ok (.sipush 9999, 3) := by decide +kernel
theorem dX11_mayAddGrain_12 : decode cX11_mayAddGrain 12 = .ok (.if_icmp .gt 7, 3) := by decide +kernel
theorem dX11_mayAddGrain_15 : decode cX11_mayAddGrain 15 = .ok (.iconst 1, 1) := by decide +kernel
theorem dX11_mayAddGrain_16 : decode cX11_mayAddGrain 16 = .ok (.goto 4, 3) := by decide +kernel
theorem dX11_mayAddGrain_19 : decode cX11_mayAddGrain 19 = .ok (.iconst 0, 1) := by decide +kernel
theorem dX11_mayAddGrain_20 : decode cX11_mayAddGrain 20 = .ok (.ireturn, 1) := by decide +kernel
theorem dX11_addsGrain_0 : decode cX11_addsGrain 0 = .ok (.aload_n 0, 1) := by decide +kernel
theorem dX11_addsGrain_1 : decode cX11_addsGrain 1 = .ok (.iload_n 1, 1) := by decide +kernel
theorem dX11_addsGrain_2 : decode cX11_addsGrain 2 = .ok (.bipush 7, 2) := by decide +kernel
theorem dX11_addsGrain_4 : decode cX11_addsGrain 4 = .ok (.aload_n 0, 1) := by decide +kernel
theorem dX11_addsGrain_5 : decode cX11_addsGrain 5 = .ok (.iload_n 1, 1) := by decide +kernel
theorem dX11_addsGrain_6 : decode cX11_addsGrain 6 = .ok (.bipush 7, 2) := by decide +kernel
theorem dX11_addsGrain_8 : decode cX11_addsGrain 8 = .ok (.invokevirtual 99, 3) := by decide +kernel
theorem dX11_addsGrain_11 : decode cX11_addsGrain 11 = .ok (.iload_n 2, 1) := by decide +kernel
theorem dX11_addsGrain_12 : decode cX11_addsGrain 12 = .ok (.iadd, 1) := by decide +kernel
theorem dX11_addsGrain_13 : decode cX11_addsGrain 13 = .ok (.invokevirtual 72, 3) := by decide +kernel
theorem dX11_addsGrain_16 : decode cX11_addsGrain 16 = .ok (.aload_n 0, 1) := by decide +kernel
theorem dX11_addsGrain_17 : decode cX11_addsGrain 17 = .ok (.getfield 7, 3) := by decide +kernel
theorem dX11_addsGrain_20 : decode cX11_addsGrain 20 = .ok (.bipush 15, 2) := by decide +kernel
theorem dX11_addsGrain_22 : decode cX11_addsGrain 22 = .ok (.dup2, 1) := by decide +kernel
theorem dX11_addsGrain_23 : decode cX11_addsGrain 23 = .ok (.iaload, 1) := by decide +kernel
theorem dX11_addsGrain_24 : decode cX11_addsGrain 24 = .ok (.iload_n 2, 1) := by decide +kernel
theorem dX11_addsGrain_25 : decode cX11_addsGrain 25 = .ok (.iadd, 1) := by decide +kernel
theorem dX11_addsGrain_26 : decode cX11_addsGrain 26 = .ok (.iastore, 1) := by decide +kernel
theorem dX11_addsGrain_27 : decode cX11_addsGrain 27 = .ok (.aload_n 0, 1) := by decide +kernel
theorem dX11_addsGrain_28 : decode cX11_addsGrain 28 = .ok (.iload_n 1, 1) := by decide +kernel
theorem dX11_addsGrain_29 : decode cX11_addsGrain 29 = .ok (.bipush 7, 2) := by decide +kernel
theorem dX11_addsGrain_31 : decode cX11_addsGrain 31 = .ok (.invokevirtual 99, 3) := by decide +kernel
theorem dX11_addsGrain_34 : decode cX11_addsGrain 34 = .ok (.ireturn, 1) := by decide +kernel
theorem dX11_sets_0 : decode cX11_sets 0 = .ok (.aload_n 0, 1) := by decide +kernel
theorem dX11_sets_1 : decode cX11_sets 1 = .ok (.getfield 7, 3) := by decide +kernel
theorem dX11_sets_4 : decode cX11_sets 4 = .ok (.iload_n 1, 1) := by decide +kernel
theorem dX11_sets_5 : decode cX11_sets 5 = .ok (.iaload, 1) := by decide +kernel
theorem dX11_sets_6 : decode cX11_sets 6 = .ok (.istore_n 3, 1) := by decide +kernel
theorem dX11_sets_7 : decode cX11_sets 7 = .ok (.aload_n 0, 1) := by decide +kernel
theorem dX11_sets_8 : decode cX11_sets 8 = .ok (.getfield 7, 3) := by decide +kernel
theorem dX11_sets_11 : decode cX11_sets 11 = .ok (.iload_n 1, 1) := by decide +kernel
theorem dX11_sets_12 : decode cX11_sets 12 = .ok (.iload_n 2, 1) := by decide +kernel
theorem dX11_sets_13 : decode cX11_sets 13 = .ok (.iastore, 1) := by decide +kernel
theorem dX11_sets_14 : decode cX11_sets 14 = .ok (.iload_n 3, 1) := by decide +kernel
theorem dX11_sets_15 : decode cX11_sets 15 = .ok (.ireturn, 1) := by decide +kernel
theorem dX11_remembers_0 : decode cX11_remembers 0 = .ok (.aload_n 0, 1) := by decide +kernel
theorem dX11_remembers_1 : decode cX11_remembers 1 = .ok (.getfield 161, 3) := by decide +kernel
theorem dX11_remembers_4 : decode cX11_remembers 4 = .ok (.bipush 8, 2) := by decide +kernel
theorem dX11_remembers_6 : decode cX11_remembers 6 = .ok (.if_icmp .ne 44, 3) := by decide +kernel
theorem dX11_remembers_9 : decode cX11_remembers 9 = .ok (.iconst 0, 1) := by decide +kernel
theorem dX11_remembers_10 : decode cX11_remembers 10 = .ok (.istore_n 1, 1) := by decide +kernel
theorem dX11_remembers_11 : decode cX11_remembers 11 = .ok (.iload_n 1, 1) := by decide +kernel
theorem dX11_remembers_12 : decode cX11_remembers 12 = .ok (.sipush 1799, 3) := by decide +kernel
theorem dX11_remembers_15 : decode cX11_remembers 15 = .ok (.if_icmp .ge 25, 3) := by decide +kernel
theorem dX11_remembers_18 : decode cX11_remembers 18 = .ok (.aload_n 0, 1) := by decide +kernel
theorem dX11_remembers_19 : decode cX11_remembers 19 = .ok (.getfield 22, 3) := by decide +kernel
theorem dX11_remembers_22 : decode cX11_remembers 22 = .ok (.iload_n 1, 1) := by decide +kernel
theorem dX11_remembers_23 : decode cX11_remembers 23 = .ok (.aload_n 0, 1) := by decide +kernel
theorem dX11_remembers_24 : decode cX11_remembers 24 = .ok (.getfield 22, 3) := by decide +kernel
theorem dX11_remembers_27 : decode cX11_remembers 27 = .ok (.iload_n 1, 1) := by decide +kernel
theorem dX11_remembers_28 : decode cX11_remembers 28 = .ok (.sipush 257, 3) := by decide +kernel
theorem dX11_remembers_31 : decode cX11_remembers 31 = .ok (.iadd, 1) := by decide +kernel
theorem dX11_remembers_32 : decode cX11_remembers 32 = .ok (.iaload, 1) := by decide +kernel
theorem dX11_remembers_33 : decode cX11_remembers 33 = .ok (.iastore, 1) := by decide +kernel
theorem dX11_remembers_34 : decode cX11_remembers 34 = .ok (.iinc 1 1, 3) := by decide +kernel
theorem dX11_remembers_37 : decode cX11_remembers 37 = .ok (.goto (-26), 3) := by decide +kernel
theorem dX11_remembers_40 : decode cX11_remembers 40 = .ok (.aload_n 0, 1) := by decide +kernel
theorem dX11_remembers_41 : decode cX11_remembers 41 = .ok (.dup, 1) := by decide +kernel
theorem dX11_remembers_42 : decode cX11_remembers 42 = .ok (.getfield 161, 3) := by decide +kernel
theorem dX11_remembers_45 : decode cX11_remembers 45 = .ok (.iconst 1, 1) := by decide +kernel
theorem dX11_remembers_46 : decode cX11_remembers 46 = .ok (.isub, 1) := by decide +kernel
theorem dX11_remembers_47 : decode cX11_remembers 47 = .ok (.putfield 161, 3) := by decide +kernel
theorem dX11_remembers_50 : decode cX11_remembers 50 = .ok (.aload_n 0, 1) := by decide +kernel
theorem dX11_remembers_51 : decode cX11_remembers 51 = .ok (.getfield 7, 3) := by decide +kernel
theorem dX11_remembers_54 : decode cX11_remembers 54 = .ok (.iconst 0, 1) := by decide +kernel
theorem dX11_remembers_55 : decode cX11_remembers 55 = .ok (.aload_n 0, 1) := by decide +kernel
theorem dX11_remembers_56 : decode cX11_remembers 56 = .ok (.getfield 22, 3) := by decide +kernel
theorem dX11_remembers_59 : decode cX11_remembers 59 = .ok (.sipush 257, 3) := by decide +kernel
theorem dX11_remembers_62 : decode cX11_remembers 62 = .ok (.aload_n 0, 1) := by decide +kernel
theorem dX11_remembers_63 : decode cX11_remembers 63 = .ok (.getfield 161, 3) := by decide +kernel
theorem dX11_remembers_66 : decode cX11_remembers 66 = .ok (.imul, 1) := by decide +kernel
theorem dX11_remembers_67 : decode cX11_remembers 67 = .ok (.invokestatic 164, 3) := by decide +kernel
theorem dX11_remembers_70 : decode cX11_remembers 70 = .ok (.aload_n 0, 1) := by decide +kernel
theorem dX11_remembers_71 : decode cX11_remembers 71 = .ok (.dup, 1) := by decide +kernel
theorem dX11_remembers_72 : decode cX11_remembers 72 = .ok (.getfield 161, 3) := by decide +kernel
theorem dX11_remembers_75 : decode cX11_remembers 75 = .ok (.iconst 1, 1) := by decide +kernel
theorem dX11_remembers_76 : decode cX11_remembers 76 = .ok (.iadd, 1) := by decide +kernel
theorem dX11_remembers_77 : decode cX11_remembers 77 = .ok (.putfield 161, 3) := by decide +kernel
theorem dX11_remembers_80 : decode cX11_remembers 80 = .ok (.return_, 1) := by decide +kernel
theorem dX11_goesAside_0 : decode cX11_goesAside 0 = .ok (.aload_n 0, 1) := by decide +kernel
theorem dX11_goesAside_1 : decode cX11_goesAside 1 = .ok (.getfield 7, 3) := by decide +kernel
theorem dX11_goesAside_4 : decode cX11_goesAside 4 = .ok (.iconst 0, 1) := by decide +kernel
theorem dX11_goesAside_5 : decode cX11_goesAside 5 = .ok (.aload_n 0, 1) := by decide +kernel
theorem dX11_goesAside_6 : decode cX11_goesAside 6 = .ok (.getfield 16, 3) := by decide +kernel
theorem dX11_goesAside_9 : decode cX11_goesAside 9 = .ok (.iconst 0, 1) := by decide +kernel
theorem dX11_goesAside_10 : decode cX11_goesAside 10 = .ok (.invokestatic 164, 3) := by decide +kernel
theorem dX11_goesAside_13 : decode cX11_goesAside 13 = .ok (.return_, 1) := by decide +kernel
theorem dX11_goesBack_0 : decode cX11_goesBack 0 = .ok (.aload_n 0, 1) := by decide +kernel
theorem dX11_goesBack_1 : decode cX11_goesBack 1 = .ok (.getfield 16, 3) := by decide +kernel
theorem dX11_goesBack_4 : decode cX11_goesBack 4 = .ok (.iconst 0, 1) := by decide +kernel
theorem dX11_goesBack_5 : decode cX11_goesBack 5 = .ok (.aload_n 0, 1) := by decide +kernel
theorem dX11_goesBack_6 : decode cX11_goesBack 6 = .ok (.getfield 7, 3) := by decide +kernel
theorem dX11_goesBack_9 : decode cX11_goesBack 9 = .ok (.iconst 0, 1) := by decide +kernel
theorem dX11_goesBack_10 : decode cX11_goesBack 10 = .ok (.invokestatic 164, 3) := by decide +kernel
theorem dX11_goesBack_13 : decode cX11_goesBack 13 = .ok (.iload_n 1, 1) := by decide +kernel
theorem dX11_goesBack_14 : decode cX11_goesBack 14 = .ok (.ireturn, 1) := by decide +kernel
theorem dX11_appendWord_0 : decode cX11_appendWord 0 = .ok (.bipush 24, 2) := by decide +kernel
theorem dX11_appendWord_2 : decode cX11_appendWord 2 = .ok (.istore_n 2, 1) := by decide +kernel
theorem dX11_appendWord_3 : decode cX11_appendWord 3 = .ok (.iload_n 2, 1) := by decide +kernel
theorem dX11_appendWord_4 : decode cX11_appendWord 4 = .ok (.ifCond .lt 35, 3) := by decide +kernel
theorem dX11_appendWord_7 : decode cX11_appendWord 7 = .ok (.aload_n 0, 1) := by decide +kernel
theorem dX11_appendWord_8 : decode cX11_appendWord 8 = .ok (.getfield 25, 3) := by decide +kernel
theorem dX11_appendWord_11 : decode cX11_appendWord 11 = .ok (.aload_n 0, 1) := by decide +kernel
theorem dX11_appendWord_12 : decode cX11_appendWord 12 = .ok (.getfield 168, 3) := by decide +kernel
theorem dX11_appendWord_15 : decode cX11_appendWord 15 = .ok (.iload_n 1, 1) := by decide +kernel
theorem dX11_appendWord_16 : decode cX11_appendWord 16 = .ok (.iload_n 2, 1) := by decide +kernel
theorem dX11_appendWord_17 : decode cX11_appendWord 17 = .ok (.ishr, 1) := by decide +kernel
theorem dX11_appendWord_18 : decode cX11_appendWord 18 = .ok (.sipush 255, 3) := by decide +kernel
theorem dX11_appendWord_21 : decode cX11_appendWord 21 = .ok (.iand, 1) := by decide +kernel
theorem dX11_appendWord_22 : decode cX11_appendWord 22 = .ok (.iastore, 1) := by decide +kernel
theorem dX11_appendWord_23 : decode cX11_appendWord 23 = .ok (.aload_n 0, 1) := by decide +kernel
theorem dX11_appendWord_24 : decode cX11_appendWord 24 = .ok (.dup, 1) := by decide +kernel
theorem dX11_appendWord_25 : decode cX11_appendWord 25 = .ok (.getfield 168, 3) := by decide +kernel
theorem dX11_appendWord_28 : decode cX11_appendWord 28 = .ok (.iconst 1, 1) := by decide +kernel
theorem dX11_appendWord_29 : decode cX11_appendWord 29 = .ok (.iadd, 1) := by decide +kernel
theorem dX11_appendWord_30 : decode cX11_appendWord 30 = .ok (.putfield 168, 3) := by decide +kernel
theorem dX11_appendWord_33 : decode cX11_appendWord 33 = .ok (.iinc 2 (-8), 3) := by decide +kernel
theorem dX11_appendWord_36 : decode cX11_appendWord 36 = .ok (.goto (-33), 3) := by decide +kernel
theorem dX11_appendWord_39 : decode cX11_appendWord 39 = .ok (.return_, 1) := by decide +kernel
theorem dX11_appendInput_0 : decode cX11_appendInput 0 = .ok (.aload_n 0, 1) := by decide +kernel
theorem dX11_appendInput_1 : decode cX11_appendInput 1 = .ok (.iconst 0, 1) := by decide +kernel
theorem dX11_appendInput_2 : decode cX11_appendInput 2 = .ok (.putfield 66, 3) := by decide +kernel
theorem dX11_appendInput_5 : decode cX11_appendInput 5 = .ok (.aload_n 0, 1) := by decide +kernel
theorem dX11_appendInput_6 : decode cX11_appendInput 6 = .ok (.getfield 168, 3) := by decide +kernel
theorem dX11_appendInput_9 : decode cX11_appendInput 9 = .ok (.bipush 20, 2) := by decide +kernel
theorem dX11_appendInput_11 : decode cX11_appendInput 11 = .ok (.iadd, 1) := by decide +kernel
theorem dX11_appendInput_12 : decode cX11_appendInput 12 = .ok (.sipush 600, 3) := by decide +kernel
theorem dX11_appendInput_15 : decode cX11_appendInput 15 = .ok (.if_icmp .le 5, 3) := by decide +kernel
theorem dX11_appendInput_18 : decode cX11_appendInput 18 = .ok (.iconst (-1), 1) := by decide +kernel
theorem dX11_appendInput_19 : decode cX11_appendInput 19 = .ok (.ireturn, 1) := by decide +kernel
theorem dX11_appendInput_20 : decode cX11_appendInput 20 = .ok (.aload_n 0, 1) := by decide +kernel
theorem dX11_appendInput_21 : decode cX11_appendInput 21 = .ok (.iload_n 1, 1) := by decide +kernel
theorem dX11_appendInput_22 : decode cX11_appendInput 22 = .ok (.invokevirtual 171, 3) := by decide +kernel
theorem dX11_appendInput_25 : decode cX11_appendInput 25 = .ok (.aload_n 0, 1) := by decide +kernel
theorem dX11_appendInput_26 : decode cX11_appendInput 26 = .ok (.iload_n 2, 1) := by decide +kernel
theorem dX11_appendInput_27 : decode cX11_appendInput 27 = .ok (.invokevirtual 171, 3) := by decide +kernel
theorem dX11_appendInput_30 : decode cX11_appendInput 30 = .ok (.aload_n 0, 1) := by decide +kernel
theorem dX11_appendInput_31 : decode cX11_appendInput 31 = .ok (.iload_n 3, 1) := by decide +kernel
theorem dX11_appendInput_32 : decode cX11_appendInput 32 = .ok (.invokevirtual 171, 3) := by decide +kernel
theorem dX11_appendInput_35 : decode cX11_appendInput 35 = .ok (.aload_n 0, 1) := by decide +kernel
theorem dX11_appendInput_36 : decode cX11_appendInput 36 = .ok (.iload 4, 2) := by decide +kernel
theorem dX11_appendInput_38 : decode cX11_appendInput 38 = .ok (.invokevirtual 171, 3) := by decide +kernel
theorem dX11_appendInput_41 : decode cX11_appendInput 41 = .ok (.aload_n 0, 1) := by decide +kernel
theorem dX11_appendInput_42 : decode cX11_appendInput 42 = .ok (.iload 5, 2) := by decide +kernel
theorem dX11_appendInput_44 : decode cX11_appendInput 44 = .ok (.invokevirtual 171, 3) := by decide +kernel
theorem dX11_appendInput_47 : decode cX11_appendInput 47 = .ok (.aload_n 0, 1) := by decide +kernel
theorem dX11_appendInput_48 : decode cX11_appendInput 48 = .ok (.getfield 168, 3) := by decide +kernel
theorem dX11_appendInput_51 : decode cX11_appendInput 51 = .ok (.ireturn, 1) := by decide +kernel
theorem dX11_truncateInput_0 : decode cX11_truncateInput 0 = .ok (.aload_n 0, 1) := by decide +kernel
theorem dX11_truncateInput_1 : decode cX11_truncateInput 1 = .ok (.iconst 0, 1) := by decide +kernel
theorem dX11_truncateInput_2 : decode cX11_truncateInput 2 = .ok (.putfield 66, 3) := by decide +kernel
theorem dX11_truncateInput_5 : decode cX11_truncateInput 5 = .ok (.iload_n 1, 1) := by decide +kernel
theorem dX11_truncateInput_6 : decode cX11_truncateInput 6 = .ok (.iconst 0, 1) := by decide +kernel
theorem dX11_truncateInput_7 : decode cX11_truncateInput 7 = .ok (.aload_n 0, 1) := by decide +kernel
theorem dX11_truncateInput_8 : decode cX11_truncateInput 8 = .ok (.getfield 168, 3) := by decide +kernel
theorem dX11_truncateInput_11 : decode cX11_truncateInput 11 = .ok (.invokestatic 174, 3) := by decide +kernel
theorem dX11_truncateInput_14 : decode cX11_truncateInput 14 = .ok (.ifCond .ne 5, 3) := by decide +kernel
theorem dX11_truncateInput_17 : decode cX11_truncateInput 17 = .ok (.iconst 0, 1) := by decide +kernel
theorem dX11_truncateInput_18 : decode cX11_truncateInput 18 = .ok (.ireturn, 1) := by decide +kernel
theorem dX11_truncateInput_19 : decode cX11_truncateInput 19 = .ok (.aload_n 0, 1) := by decide +kernel
theorem dX11_truncateInput_20 : decode cX11_truncateInput 20 = .ok (.iload_n 1, 1) := by decide +kernel
theorem dX11_truncateInput_21 : decode cX11_truncateInput 21 = .ok (.putfield 168, 3) := by decide +kernel
theorem dX11_truncateInput_24 : decode cX11_truncateInput 24 = .ok (.iconst 1, 1) := by decide +kernel
theorem dX11_truncateInput_25 : decode cX11_truncateInput 25 = .ok (.ireturn, 1) := by decide +kernel
theorem dX11_byteAt_0 : decode cX11_byteAt 0 = .ok (.iload_n 1, 1) := by decide +kernel
theorem dX11_byteAt_1 : decode cX11_byteAt 1 = .ok (.aload_n 0, 1) := by decide +kernel
theorem dX11_byteAt_2 : decode cX11_byteAt 2 = .ok (.getfield 168, 3) := by decide +kernel
theorem dX11_byteAt_5 : decode cX11_byteAt 5 = .ok (.if_icmp .ge 12, 3) := by decide +kernel
theorem dX11_byteAt_8 : decode cX11_byteAt 8 = .ok (.aload_n 0, 1) := by decide +kernel
theorem dX11_byteAt_9 : decode cX11_byteAt 9 = .ok (.getfield 25, 3) := by decide +kernel
theorem dX11_byteAt_12 : decode cX11_byteAt 12 = .ok (.iload_n 1, 1) := by decide +kernel
theorem dX11_byteAt_13 : decode cX11_byteAt 13 = .ok (.iaload, 1) := by decide +kernel
theorem dX11_byteAt_14 : decode cX11_byteAt 14 = .ok (.goto 4, 3) := by decide +kernel
theorem dX11_byteAt_17 : decode cX11_byteAt 17 = .ok (.iconst (-1), 1) := by decide +kernel
theorem dX11_byteAt_18 : decode cX11_byteAt 18 = .ok (.ireturn, 1) := by decide +kernel
theorem dX11_isLetter_0 : decode cX11_isLetter 0 = .ok (.aload_n 0, 1) := by decide +kernel
theorem dX11_isLetter_1 : decode cX11_isLetter 1 = .ok (.iload_n 1, 1) := by decide +kernel
theorem dX11_isLetter_2 : decode cX11_isLetter 2 = .ok (.invokevirtual 178, 3) := by decide +kernel
theorem dX11_isLetter_5 : decode cX11_isLetter 5 = .ok (.bipush 97, 2) := by decide +kernel
theorem dX11_isLetter_7 : decode cX11_isLetter 7 = .ok (.bipush 122, 2) := by decide +kernel
theorem dX11_isLetter_9 : decode cX11_isLetter 9 = .ok (.invokestatic 174, 3) := by decide +kernel
theorem dX11_isLetter_12 : decode cX11_isLetter 12 = .ok (.ireturn, 1) := by decide +kernel
theorem dX11_advanceToken_0 : decode cX11_advanceToken 0 = .ok (.aload_n 0, 1) := by decide +kernel
theorem dX11_advanceToken_1 : decode cX11_advanceToken 1 = .ok (.aload_n 0, 1) := by decide +kernel
theorem dX11_advanceToken_2 : decode cX11_advanceToken 2 = .ok (.getfield 181, 3) := by decide +kernel
theorem dX11_advanceToken_5 : decode cX11_advanceToken 5 = .ok (.invokevirtual 178, 3) := by decide +kernel
theorem dX11_advanceToken_8 : decode cX11_advanceToken 8 = .ok (.bipush 32, 2) := by decide +kernel
theorem dX11_advanceToken_10 : decode cX11_advanceToken 10 = .ok (.if_icmp .eq 16, 3) := by decide +kernel
theorem dX11_advanceToken_13 : decode cX11_advanceToken 13 = .ok (.aload_n 0, 1) := by decide +kernel
theorem dX11_advanceToken_14 : decode cX11_advanceToken 14 = .ok (.aload_n 0, 1) := by decide +kernel
theorem dX11_advanceToken_15 : decode cX11_advanceToken 15 = .ok (.getfield 181, 3) := by decide +kernel
theorem dX11_advanceToken_18 : decode cX11_advanceToken 18 = .ok (.invokevirtual 178, 3) := by decide +kernel
theorem dX11_advanceToken_21 : decode cX11_advanceToken 21 = .ok (.bipush 10, 2) := by decide +kernel
theorem dX11_advanceToken_23 : decode cX11_advanceToken 23 = .ok (.if_icmp .ne 16, 3) := by decide +kernel
theorem dX11_advanceToken_26 : decode cX11_advanceToken 26 = .ok (.aload_n 0, 1) := by decide +kernel
theorem dX11_advanceToken_27 : decode cX11_advanceToken 27 = .ok (.dup, 1) := by decide +kernel
theorem dX11_advanceToken_28 : decode cX11_advanceToken 28 = .ok (.getfield 181, 3) := by decide +kernel
theorem dX11_advanceToken_31 : decode cX11_advanceToken 31 = .ok (.iconst 1, 1) := by decide +kernel
theorem dX11_advanceToken_32 : decode cX11_advanceToken 32 = .ok (.iadd, 1) := by decide +kernel
theorem dX11_advanceToken_33 : decode cX11_advanceToken 33 = .ok (.putfield 181, 3) := by decide +kernel
theorem dX11_advanceToken_36 : decode cX11_advanceToken 36 = .ok (.goto (-36), 3) := by decide +kernel
theorem dX11_advanceToken_39 : decode cX11_advanceToken 39 = .ok (.aload_n 0, 1) := by decide +kernel
theorem dX11_advanceToken_40 : decode cX11_advanceToken 40 = .ok (.aload_n 0, 1) := by decide +kernel
theorem dX11_advanceToken_41 : decode cX11_advanceToken 41 = .ok (.getfield 181, 3) := by decide +kernel
theorem dX11_advanceToken_44 : decode cX11_advanceToken 44 = .ok (.putfield 184, 3) := by decide +kernel
theorem dX11_advanceToken_47 : decode cX11_advanceToken 47 = .ok (.aload_n 0, 1) := by decide +kernel
theorem dX11_advanceToken_48 : decode cX11_advanceToken 48 = .ok (.aload_n 0, 1) := by decide +kernel
theorem dX11_advanceToken_49 : decode cX11_advanceToken 49 = .ok (.getfield 181, 3) := by decide +kernel
theorem dX11_advanceToken_52 : decode cX11_advanceToken 52 = .ok (.invokevirtual 178, 3) := by decide +kernel
theorem dX11_advanceToken_55 : decode cX11_advanceToken 55 = .ok (.istore_n 1, 1) := by decide +kernel
theorem dX11_advanceToken_56 : decode cX11_advanceToken 56 = .ok (.aload_n 0, 1) := by decide +kernel
theorem dX11_advanceToken_57 : decode cX11_advanceToken 57 = .ok (.iconst 0, 1) := by decide +kernel
theorem dX11_advanceToken_58 : decode cX11_advanceToken 58 = .ok (.putfield 187, 3) := by decide +kernel
theorem dX11_advanceToken_61 : decode cX11_advanceToken 61 = .ok (.iload_n 1, 1) := by decide +kernel
theorem dX11_advanceToken_62 : decode cX11_advanceToken 62 = .ok (.iconst (-1), 1) := by decide +kernel
theorem dX11_advanceToken_63 : decode cX11_advanceToken 63 = .ok (.if_icmp .ne 11, 3) := by decide +kernel
theorem dX11_advanceToken_66 : decode cX11_advanceToken 66 = .ok (.aload_n 0, 1) := by decide +kernel
theorem dX11_advanceToken_67 : decode cX11_advanceToken 67 = .ok (.iconst 0, 1) := by decide +kernel
theorem dX11_advanceToken_68 : decode cX11_advanceToken 68 = .ok (.putfield 190, 3) := by decide +kernel
theorem dX11_advanceToken_71 : decode cX11_advanceToken 71 = .ok (.goto 199, 3) := by decide +kernel
theorem dX11_advanceToken_74 : decode cX11_advanceToken 74 = .ok (.aload_n 0, 1) := by decide +kernel
theorem dX11_advanceToken_75 : decode cX11_advanceToken 75 = .ok (.aload_n 0, 1) := by decide +kernel
theorem dX11_advanceToken_76 : decode cX11_advanceToken 76 = .ok (.getfield 181, 3) := by decide +kernel
theorem dX11_advanceToken_79 : decode cX11_advanceToken 79 = .ok (.invokevirtual 193, 3) := by decide +kernel
theorem dX11_advanceToken_82 : decode cX11_advanceToken 82 = .ok (.ifCond .eq 53, 3) := by decide +kernel
theorem dX11_advanceToken_85 : decode cX11_advanceToken 85 = .ok (.aload_n 0, 1) := by decide +kernel
theorem dX11_advanceToken_86 : decode cX11_advanceToken 86 = .ok (.aload_n 0, 1) := by decide +kernel
theorem dX11_advanceToken_87 : decode cX11_advanceToken 87 = .ok (.getfield 181, 3) := by decide +kernel
theorem dX11_advanceToken_90 : decode cX11_advanceToken 90 = .ok (.invokevirtual 193, 3) := by decide +kernel
theorem dX11_advanceToken_93 : decode cX11_advanceToken 93 = .ok (.ifCond .eq 16, 3) := by decide +kernel
theorem dX11_advanceToken_96 : decode cX11_advanceToken 96 = .ok (.aload_n 0, 1) := by decide +kernel
theorem dX11_advanceToken_97 : decode cX11_advanceToken 97 = .ok (.dup, 1) := by decide +kernel
theorem dX11_advanceToken_98 : decode cX11_advanceToken 98 = .ok (.getfield 181, 3) := by decide +kernel
theorem dX11_advanceToken_101 : decode cX11_advanceToken 101 = .ok (.iconst 1, 1) := by decide +kernel
theorem dX11_advanceToken_102 : decode cX11_advanceToken 102 = .ok (.iadd, 1) := by decide +kernel
theorem dX11_advanceToken_103 : decode cX11_advanceToken 103 = .ok (.putfield 181, 3) := by decide +kernel
theorem dX11_advanceToken_106 : decode cX11_advanceToken 106 = .ok (.goto (-21), 3) := by decide +kernel
theorem dX11_advanceToken_109 : decode cX11_advanceToken 109 = .ok (.aload_n 0, 1) := by decide +kernel
theorem dX11_advanceToken_110 : decode cX11_advanceToken 110 = .ok (.aload_n 0, 1) := by decide +kernel
theorem dX11_advanceToken_111 : decode cX11_advanceToken 111 = .ok (.getfield 181, 3) := by decide +kernel
theorem dX11_advanceToken_114 : decode cX11_advanceToken 114 = .ok (.aload_n 0, 1) := by decide +kernel
theorem dX11_advanceToken_115 : decode cX11_advanceToken 115 = .ok (.getfield 184, 3) := by decide +kernel
theorem dX11_advanceToken_118 : decode cX11_advanceToken 118 = .ok (.isub, 1) := by decide +kernel
theorem dX11_advanceToken_119 : decode cX11_advanceToken 119 = .ok (.bipush 8, 2) := by decide +kernel
theorem dX11_advanceToken_121 : decode cX11_advanceToken 121 = .ok (.if_icmp .le 7, 3) := by decide +kernel
theorem dX11_advanceToken_124 : decode cX11_advanceToken 124 = .ok (.iconst 4, 1) := by decide +kernel
theorem dX11_advanceToken_125 : decode cX11_advanceToken 125 = .ok (.goto 4, 3) := by decide +kernel
theorem dX11_advanceToken_128 : decode cX11_advanceToken 128 = .ok (.iconst 1, 1) := by decide +kernel
theorem dX11_advanceToken_129 : decode cX11_advanceToken 129 = .ok (.putfield 190, 3) := by decide +kernel
theorem dX11_advanceToken_132 : decode cX11_advanceToken 132 = .ok (.goto 138, 3) := by decide +kernel
theorem dX11_advanceToken_135 : decode cX11_advanceToken 135 = .ok (.iload_n 1, 1) := by decide +kernel
theorem dX11_advanceToken_136 : decode cX11_advanceToken 136 = .ok (.bipush 48, 2) := by decide +kernel
theorem dX11_advanceToken_138 : decode cX11_advanceToken 138 = .ok (.bipush 57, 2) := by decide +kernel
theorem dX11_advanceToken_140 : decode cX11_advanceToken 140 = .ok (.invokestatic 174, 3) := by decide +kernel
theorem dX11_advanceToken_143 : decode cX11_advanceToken 143 = .ok (.ifCond .eq 102, 3) := by decide +kernel
theorem dX11_advanceToken_146 : decode cX11_advanceToken 146 = .ok (.aload_n 0, 1) := by decide +kernel
theorem dX11_advanceToken_147 : decode cX11_advanceToken 147 = .ok (.aload_n 0, 1) := by decide +kernel
theorem dX11_advanceToken_148 : decode cX11_advanceToken 148 = .ok (.getfield 181, 3) := by decide +kernel
theorem dX11_advanceToken_151 : decode cX11_advanceToken 151 = .ok (.invokevirtual 178, 3) := by decide +kernel
theorem dX11_advanceToken_154 : decode cX11_advanceToken 154 = .ok (.bipush 48, 2) := by decide +kernel
theorem dX11_advanceToken_156 : decode cX11_advanceToken 156 = .ok (.bipush 57, 2) := by decide +kernel
theorem dX11_advanceToken_158 : decode cX11_advanceToken 158 = .ok (.invokestatic 174, 3) := by decide +kernel
theorem dX11_advanceToken_161 : decode cX11_advanceToken 161 = .ok (.ifCond .eq 59, 3) := by decide +kernel
theorem dX11_advanceToken_164 : decode cX11_advanceToken 164 = .ok (.aload_n 0, 1) := by decide +kernel
theorem dX11_advanceToken_165 : decode cX11_advanceToken 165 = .ok (.aload_n 0, 1) := by decide +kernel
theorem dX11_advanceToken_166 : decode cX11_advanceToken 166 = .ok (.getfield 181, 3) := by decide +kernel
theorem dX11_advanceToken_169 : decode cX11_advanceToken 169 = .ok (.aload_n 0, 1) := by decide +kernel
theorem dX11_advanceToken_170 : decode cX11_advanceToken 170 = .ok (.getfield 184, 3) := by decide +kernel
theorem dX11_advanceToken_173 : decode cX11_advanceToken 173 = .ok (.isub, 1) := by decide +kernel
theorem dX11_advanceToken_174 : decode cX11_advanceToken 174 = .ok (.iconst 4, 1) := by decide +kernel
theorem dX11_advanceToken_175 : decode cX11_advanceToken 175 = .ok (.if_icmp .ge 25, 3) := by decide +kernel
theorem dX11_advanceToken_178 : decode cX11_advanceToken 178 = .ok (.bipush 10, 2) := by decide +kernel
theorem dX11_advanceToken_180 : decode cX11_advanceToken 180 = .ok (.aload_n 0, 1) := by decide +kernel
theorem dX11_advanceToken_181 : decode cX11_advanceToken 181 = .ok (.getfield 187, 3) := by decide +kernel
theorem dX11_advanceToken_184 : decode cX11_advanceToken 184 = .ok (.imul, 1) := by decide +kernel
theorem dX11_advanceToken_185 : decode cX11_advanceToken 185 = .ok (.aload_n 0, 1) := by decide +kernel
theorem dX11_advanceToken_186 : decode cX11_advanceToken 186 = .ok (.aload_n 0, 1) := by decide +kernel
theorem dX11_advanceToken_187 : decode cX11_advanceToken 187 = .ok (.getfield 181, 3) := by decide +kernel
theorem dX11_advanceToken_190 : decode cX11_advanceToken 190 = .ok (.invokevirtual 178, 3) := by decide +kernel
theorem dX11_advanceToken_193 : decode cX11_advanceToken 193 = .ok (.iadd, 1) := by decide +kernel
theorem dX11_advanceToken_194 : decode cX11_advanceToken 194 = .ok (.bipush 48, 2) := by decide +kernel
theorem dX11_advanceToken_196 : decode cX11_advanceToken 196 = .ok (.isub, 1) := by decide +kernel
theorem dX11_advanceToken_197 : decode cX11_advanceToken 197 = .ok (.goto 7, 3) := by decide +kernel
theorem dX11_advanceToken_200 : decode cX11_advanceToken 200 = .ok (.aload_n 0, 1) := by decide +kernel
theorem dX11_advanceToken_201 : decode cX11_advanceToken 201 = .ok (.getfield 187, 3) := by decide +kernel
theorem dX11_advanceToken_204 : decode cX11_advanceToken 204 = .ok (.putfield 187, 3) := by decide +kernel
theorem dX11_advanceToken_207 : decode cX11_advanceToken 207 = .ok (.aload_n 0, 1) := by decide +kernel
theorem dX11_advanceToken_208 : decode cX11_advanceToken 208 = .ok (.dup, 1) := by decide +kernel
theorem dX11_advanceToken_209 : decode cX11_advanceToken 209 = .ok (.getfield 181, 3) := by decide +kernel
theorem dX11_advanceToken_212 : decode cX11_advanceToken 212 = .ok (.iconst 1, 1) := by decide +kernel
theorem dX11_advanceToken_213 : decode cX11_advanceToken 213 = .ok (.iadd, 1) := by decide +kernel
theorem dX11_advanceToken_214 : decode cX11_advanceToken 214 = .ok (.putfield 181, 3) := by decide +kernel
theorem dX11_advanceToken_217 : decode cX11_advanceToken 217 = .ok (.goto (-71), 3) := by decide +kernel
theorem dX11_advanceToken_220 : decode cX11_advanceToken 220 = .ok (.aload_n 0, 1) := by decide +kernel
theorem dX11_advanceToken_221 : decode cX11_advanceToken 221 = .ok (.aload_n 0, 1) := by decide +kernel
theorem dX11_advanceToken_222 : decode cX11_advanceToken 222 = .ok (.getfield 181, 3) := by decide +kernel
theorem dX11_advanceToken_225 : decode cX11_advanceToken 225 = .ok (.aload_n 0, 1) := by decide +kernel
theorem dX11_advanceToken_226 : decode cX11_advanceToken 226 = .ok (.getfield 184, 3) := by decide +kernel
theorem dX11_advanceToken_229 : decode cX11_advanceToken 229 = .ok (.isub, 1) := by decide +kernel
theorem dX11_advanceToken_230 : decode cX11_advanceToken 230 = .ok (.iconst 4, 1) := by decide +kernel
theorem dX11_advanceToken_231 : decode cX11_advanceToken 231 = .ok (.if_icmp .le 7, 3) := by decide +kernel
theorem dX11_advanceToken_234 : decode cX11_advanceToken 234 = .ok (.iconst 4, 1) := by decide +kernel
theorem dX11_advanceToken_235 : decode cX11_advanceToken 235 = .ok (.goto 4, 3) := by decide +kernel
theorem dX11_advanceToken_238 : decode cX11_advanceToken 238 = .ok (.iconst 2, 1) := by decide +kernel
theorem dX11_advanceToken_239 : decode cX11_advanceToken 239 = .ok (.putfield 190, 3) := by decide +kernel
theorem dX11_advanceToken_242 : decode cX11_advanceToken 242 = .ok (.goto 28, 3) := by decide +kernel
theorem dX11_advanceToken_245 : decode cX11_advanceToken 245 = .ok (.aload_n 0, 1) := by decide +kernel
theorem dX11_advanceToken_246 : decode cX11_advanceToken 246 = .ok (.iload_n 1, 1) := by decide +kernel
theorem dX11_advanceToken_247 : decode cX11_advanceToken 247 = .ok (.bipush 59, 2) := by decide +kernel
theorem dX11_advanceToken_249 : decode cX11_advanceToken 249 = .ok (.if_icmp .ne 7, 3) := by decide +kernel
theorem dX11_advanceToken_252 : decode cX11_advanceToken 252 = .ok (.iconst 3, 1) := by decide +kernel
theorem dX11_advanceToken_253 : decode cX11_advanceToken 253 = .ok (.goto 4, 3) := by decide +kernel
theorem dX11_advanceToken_256 : decode cX11_advanceToken 256 = .ok (.iconst 4, 1) := by decide +kernel
theorem dX11_advanceToken_257 : decode cX11_advanceToken 257 = .ok (.putfield 190, 3) := by decide +kernel
theorem dX11_advanceToken_260 : decode cX11_advanceToken 260 = .ok (.aload_n 0, 1) := by decide +kernel
theorem dX11_advanceToken_261 : decode cX11_advanceToken 261 = .ok (.dup, 1) := by decide +kernel
theorem dX11_advanceToken_262 : decode cX11_advanceToken 262 = .ok (.getfield 181, 3) := by decide +kernel
theorem dX11_advanceToken_265 : decode cX11_advanceToken 265 = .ok (.iconst 1, 1) := by decide +kernel
theorem dX11_advanceToken_266 : decode cX11_advanceToken 266 = .ok (.iadd, 1) := by decide +kernel
theorem dX11_advanceToken_267 : decode cX11_advanceToken 267 = .ok (.putfield 181, 3) := by decide +kernel
theorem dX11_advanceToken_270 : decode cX11_advanceToken 270 = .ok (.return_, 1) := by decide +kernel
theorem dX11_failsAt_0 : decode cX11_failsAt 0 = .ok (.aload_n 0, 1) := by decide +kernel
theorem dX11_failsAt_1 : decode cX11_failsAt 1 = .ok (.getfield 196, 3) := by decide +kernel
theorem dX11_failsAt_4 : decode cX11_failsAt 4 = .ok (.ifCond .ne 16, 3) := by decide +kernel
theorem dX11_failsAt_7 : decode cX11_failsAt 7 = .ok (.aload_n 0, 1) := by decide +kernel
theorem dX11_failsAt_8 : decode cX11_failsAt 8 = .ok (.iload_n 1, 1) := by decide +kernel
theorem dX11_failsAt_9 : decode cX11_failsAt 9 = .ok (.putfield 196, 3) := by decide +kernel
theorem dX11_failsAt_12 : decode cX11_failsAt 12 = .ok (.aload_n 0, 1) := by decide +kernel
theorem dX11_failsAt_13 : decode cX11_failsAt 13 = .ok (.aload_n 0, 1) := by decide +kernel
theorem dX11_failsAt_14 : decode cX11_failsAt 14 = .ok (.getfield 184, 3) := by decide +kernel
theorem dX11_failsAt_17 : decode cX11_failsAt 17 = .ok (.putfield 199, 3) := by decide +kernel
theorem dX11_failsAt_20 : decode cX11_failsAt 20 = .ok (.iconst 0, 1) := by decide +kernel
theorem dX11_failsAt_21 : decode cX11_failsAt 21 = .ok (.ireturn, 1) := by decide +kernel
theorem dX11_isWord_0 : decode cX11_isWord 0 = .ok (.aload_n 0, 1) := by decide +kernel
theorem dX11_isWord_1 : decode cX11_isWord 1 = .ok (.getfield 190, 3) := by decide +kernel
theorem dX11_isWord_4 : decode cX11_isWord 4 = .ok (.iconst 1, 1) := by decide +kernel
theorem dX11_isWord_5 : decode cX11_isWord 5 = .ok (.if_icmp .ne 19, 3) := by decide +kernel
theorem dX11_isWord_8 : decode cX11_isWord 8 = .ok (.aload_n 0, 1) := by decide +kernel
theorem dX11_isWord_9 : decode cX11_isWord 9 = .ok (.getfield 181, 3) := by decide +kernel
theorem dX11_isWord_12 : decode cX11_isWord 12 = .ok (.aload_n 0, 1) := by decide +kernel
theorem dX11_isWord_13 : decode cX11_isWord 13 = .ok (.getfield 184, 3) := by decide +kernel
theorem dX11_isWord_16 : decode cX11_isWord 16 = .ok (.isub, 1) := by decide +kernel
theorem dX11_isWord_17 : decode cX11_isWord 17 = .ok (.aload_n 1, 1) := by decide +kernel
theorem dX11_isWord_18 : decode cX11_isWord 18 = .ok (.invokevirtual 202, 3) := by decide +kernel
theorem dX11_isWord_21 : decode cX11_isWord 21 = .ok (.if_icmp .eq 5, 3) := by decide +kernel
theorem dX11_isWord_24 : decode cX11_isWord 24 = .ok (.iconst 0, 1) := by decide +kernel
theorem dX11_isWord_25 : decode cX11_isWord 25 = .ok (.ireturn, 1) := by decide +kernel
theorem dX11_isWord_26 : decode cX11_isWord 26 = .ok (.iconst 0, 1) := by decide +kernel
theorem dX11_isWord_27 : decode cX11_isWord 27 = .ok (.istore_n 2, 1) := by decide +kernel
theorem dX11_isWord_28 : decode cX11_isWord 28 = .ok (.iload_n 2, 1) := by decide +kernel
theorem dX11_isWord_29 : decode cX11_isWord 29 = .ok (.aload_n 1, 1) := by decide +kernel
theorem dX11_isWord_30 : decode cX11_isWord 30 = .ok (.invokevirtual 202, 3) := by decide +kernel
theorem dX11_isWord_33 : decode cX11_isWord 33 = .ok (.if_icmp .ge 30, 3) := by decide +kernel
theorem dX11_isWord_36 : decode cX11_isWord 36 = .ok (.aload_n 0, 1) := by decide +kernel
theorem dX11_isWord_37 : decode cX11_isWord 37 = .ok (.getfield 25, 3) := by decide +kernel
theorem dX11_isWord_40 : decode cX11_isWord 40 = .ok (.aload_n 0, 1) := by decide +kernel
theorem dX11_isWord_41 : decode cX11_isWord 41 = .ok (.getfield 184, 3) := by decide +kernel
theorem dX11_isWord_44 : decode cX11_isWord 44 = .ok (.iload_n 2, 1) := by decide +kernel
theorem dX11_isWord_45 : decode cX11_isWord 45 = .ok (.iadd, 1) := by decide +kernel
theorem dX11_isWord_46 : decode cX11_isWord 46 = .ok (.iaload, 1) := by decide +kernel
theorem dX11_isWord_47 : decode cX11_isWord 47 = .ok (.aload_n 1, 1) := by decide +kernel
theorem dX11_isWord_48 : decode cX11_isWord 48 = .ok (.iload_n 2, 1) := by decide +kernel
theorem dX11_isWord_49 : decode cX11_isWord 49 = .ok (.invokevirtual 207, 3) := by decide +kernel
theorem dX11_isWord_52 : decode cX11_isWord 52 = .ok (.if_icmp .eq 5, 3) := by decide +kernel
theorem dX11_isWord_55 : decode cX11_isWord 55 = .ok (.iconst 0, 1) := by decide +kernel
theorem dX11_isWord_56 : decode cX11_isWord 56 = .ok (.ireturn, 1) := by decide +kernel
theorem dX11_isWord_57 : decode cX11_isWord 57 = .ok (.iinc 2 1, 3) := by decide +kernel
theorem dX11_isWord_60 : decode cX11_isWord 60 = .ok (.goto (-32), 3) := by decide +kernel
theorem dX11_isWord_63 : decode cX11_isWord 63 = .ok (.iconst 1, 1) := by decide +kernel
theorem dX11_isWord_64 : decode cX11_isWord 64 = .ok (.ireturn, 1) := by decide +kernel
theorem dX11_seesNumber_0 : decode cX11_seesNumber 0 = .ok (.aload_n 0, 1) := by decide +kernel
theorem dX11_seesNumber_1 : decode cX11_seesNumber 1 = .ok (.getfield 190, 3) := by decide +kernel
theorem dX11_seesNumber_4 : decode cX11_seesNumber 4 = .ok (.iconst 2, 1) := by decide +kernel
theorem dX11_seesNumber_5 : decode cX11_seesNumber 5 = .ok (.if_icmp .eq 9, 3) := by decide +kernel
theorem dX11_seesNumber_8 : decode cX11_seesNumber 8 = .ok (.aload_n 0, 1) := by decide +kernel
theorem dX11_seesNumber_9 : decode cX11_seesNumber 9 = .ok (.iconst 1, 1) := by decide +kernel
theorem dX11_seesNumber_10 : decode cX11_seesNumber 10 = .ok (.invokevirtual 211, 3) := by decide +kernel
theorem dX11_seesNumber_13 : decode cX11_seesNumber 13 = .ok (.ireturn, 1) := by decide +kernel
theorem dX11_seesNumber_14 : decode cX11_seesNumber 14 = .ok (.aload_n 0, 1) := by decide +kernel
theorem dX11_seesNumber_15 : decode cX11_seesNumber 15 = .ok (.getfield 187, 3) := by decide +kernel
theorem dX11_seesNumber_18 : decode cX11_seesNumber 18 = .ok (.iload_n 1, 1) := by decide +kernel
theorem dX11_seesNumber_19 : decode cX11_seesNumber 19 = .ok (.iload_n 2, 1) := by decide +kernel
theorem dX11_seesNumber_20 : decode cX11_seesNumber 20 = .ok (.invokestatic 174, 3) := by decide +kernel
theorem dX11_seesNumber_23 : decode cX11_seesNumber 23 = .ok (.ifCond .ne 9, 3) := by decide +kernel
theorem dX11_seesNumber_26 : decode cX11_seesNumber 26 = .ok (.aload_n 0, 1) := by decide +kernel
theorem dX11_seesNumber_27 : decode cX11_seesNumber 27 = .ok (.iconst 2, 1) := by decide +kernel
theorem dX11_seesNumber_28 : decode cX11_seesNumber 28 = .ok (.invokevirtual 211, 3) := by decide +kernel
theorem dX11_seesNumber_31 : decode cX11_seesNumber 31 = .ok (.ireturn, 1) := by decide +kernel
theorem dX11_seesNumber_32 : decode cX11_seesNumber 32 = .ok (.aload_n 0, 1) := by decide +kernel
theorem dX11_seesNumber_33 : decode cX11_seesNumber 33 = .ok (.aload_n 0, 1) := by decide +kernel
theorem dX11_seesNumber_34 : decode cX11_seesNumber 34 = .ok (.getfield 187, 3) := by decide +kernel
theorem dX11_seesNumber_37 : decode cX11_seesNumber 37 = .ok (.putfield 214, 3) := by decide +kernel
theorem dX11_seesNumber_40 : decode cX11_seesNumber 40 = .ok (.iconst 1, 1) := by decide +kernel
theorem dX11_seesNumber_41 : decode cX11_seesNumber 41 = .ok (.ireturn, 1) := by decide +kernel
theorem dX11_takesNumber_0 : decode cX11_takesNumber 0 = .ok (.aload_n 0, 1) := by decide +kernel
theorem dX11_takesNumber_1 : decode cX11_takesNumber 1 = .ok (.iload_n 1, 1) := by decide +kernel
theorem dX11_takesNumber_2 : decode cX11_takesNumber 2 = .ok (.iload_n 2, 1) := by decide +kernel
theorem dX11_takesNumber_3 : decode cX11_takesNumber 3 = .ok (.invokevirtual 217, 3) := by decide +kernel
theorem dX11_takesNumber_6 : decode cX11_takesNumber 6 = .ok (.ifCond .ne 5, 3) := by decide +kernel
theorem dX11_takesNumber_9 : decode cX11_takesNumber 9 = .ok (.iconst 0, 1) := by decide +kernel
theorem dX11_takesNumber_10 : decode cX11_takesNumber 10 = .ok (.ireturn, 1) := by decide +kernel
theorem dX11_takesNumber_11 : decode cX11_takesNumber 11 = .ok (.aload_n 0, 1) := by decide +kernel
theorem dX11_takesNumber_12 : decode cX11_takesNumber 12 = .ok (.invokevirtual 221, 3) := by decide +kernel
theorem dX11_takesNumber_15 : decode cX11_takesNumber 15 = .ok (.iconst 1, 1) := by decide +kernel
theorem dX11_takesNumber_16 : decode cX11_takesNumber 16 = .ok (.ireturn, 1) := by decide +kernel
theorem dX11_takesSemicolon_0 : decode cX11_takesSemicolon 0 = .ok (.aload_n 0, 1) := by decide +kernel
theorem dX11_takesSemicolon_1 : decode cX11_takesSemicolon 1 = .ok (.getfield 190, 3) := by decide +kernel
theorem dX11_takesSemicolon_4 : decode cX11_takesSemicolon 4 = .ok (.iconst 3, 1) := by decide +kernel
theorem dX11_takesSemicolon_5 : decode cX11_takesSemicolon 5 = .ok (.if_icmp .eq 9, 3) := by decide +kernel
theorem dX11_takesSemicolon_8 : decode cX11_takesSemicolon 8 = .ok (.aload_n 0, 1) := by decide +kernel
theorem dX11_takesSemicolon_9 : decode cX11_takesSemicolon 9 = .ok (.iconst 1, 1) := by decide +kernel
theorem dX11_takesSemicolon_10 : decode cX11_takesSemicolon 10 = .ok (.invokevirtual 211, 3) := by decide +kernel
theorem dX11_takesSemicolon_13 : decode cX11_takesSemicolon 13 = .ok (.ireturn, 1) := by decide +kernel
theorem dX11_takesSemicolon_14 : decode cX11_takesSemicolon 14 = .ok (.aload_n 0, 1) := by decide +kernel
theorem dX11_takesSemicolon_15 : decode cX11_takesSemicolon 15 = .ok (.invokevirtual 221, 3) := by decide +kernel
theorem dX11_takesSemicolon_18 : decode cX11_takesSemicolon 18 = .ok (.iconst 1, 1) := by decide +kernel
theorem dX11_takesSemicolon_19 : decode cX11_takesSemicolon 19 = .ok (.ireturn, 1) := by decide +kernel
theorem dX11_seesName_0 : decode cX11_seesName 0 = .ok (.aload_n 0, 1) := by decide +kernel
theorem dX11_seesName_1 : decode cX11_seesName 1 = .ok (.getfield 190, 3) := by decide +kernel
theorem dX11_seesName_4 : decode cX11_seesName 4 = .ok (.iconst 1, 1) := by decide +kernel
theorem dX11_seesName_5 : decode cX11_seesName 5 = .ok (.if_icmp .ne 17, 3) := by decide +kernel
theorem dX11_seesName_8 : decode cX11_seesName 8 = .ok (.aload_n 0, 1) := by decide +kernel
theorem dX11_seesName_9 : decode cX11_seesName 9 = .ok (.getfield 181, 3) := by decide +kernel
theorem dX11_seesName_12 : decode cX11_seesName 12 = .ok (.aload_n 0, 1) := by decide +kernel
theorem dX11_seesName_13 : decode cX11_seesName 13 = .ok (.getfield 184, 3) := by decide +kernel
theorem dX11_seesName_16 : decode cX11_seesName 16 = .ok (.isub, 1) := by decide +kernel
theorem dX11_seesName_17 : decode cX11_seesName 17 = .ok (.bipush 6, 2) := by decide +kernel
theorem dX11_seesName_19 : decode cX11_seesName 19 = .ok (.if_icmp .le 11, 3) := by decide +kernel
theorem dX11_seesName_22 : decode cX11_seesName 22 = .ok (.aload_n 0, 1) := by decide +kernel
theorem dX11_seesName_23 : decode cX11_seesName 23 = .ok (.iconst 1, 1) := by decide +kernel
theorem dX11_seesName_24 : decode cX11_seesName 24 = .ok (.invokevirtual 211, 3) := by decide +kernel
theorem dX11_seesName_27 : decode cX11_seesName 27 = .ok (.ifCond .eq 7, 3) := by decide +kernel
theorem dX11_seesName_30 : decode cX11_seesName 30 = .ok (.iconst 1, 1) := by decide +kernel
theorem dX11_seesName_31 : decode cX11_seesName 31 = .ok (.goto 4, 3) := by decide +kernel
theorem dX11_seesName_34 : decode cX11_seesName 34 = .ok (.iconst 0, 1) := by decide +kernel
theorem dX11_seesName_35 : decode cX11_seesName 35 = .ok (.ireturn, 1) := by decide +kernel
theorem dX11_isNameAt_0 : decode cX11_isNameAt 0 = .ok (.aload_n 0, 1) := by decide +kernel
theorem dX11_isNameAt_1 : decode cX11_isNameAt 1 = .ok (.getfield 7, 3) := by decide +kernel
theorem dX11_isNameAt_4 : decode cX11_isNameAt 4 = .ok (.iload_n 1, 1) := by decide +kernel
theorem dX11_isNameAt_5 : decode cX11_isNameAt 5 = .ok (.iconst 0, 1) := by decide +kernel
theorem dX11_isNameAt_6 : decode cX11_isNameAt 6 = .ok (.iadd, 1) := by decide +kernel
theorem dX11_isNameAt_7 : decode cX11_isNameAt 7 = .ok (.iaload, 1) := by decide +kernel
theorem dX11_isNameAt_8 : decode cX11_isNameAt 8 = .ok (.aload_n 0, 1) := by decide +kernel
theorem dX11_isNameAt_9 : decode cX11_isNameAt 9 = .ok (.getfield 181, 3) := by decide +kernel
theorem dX11_isNameAt_12 : decode cX11_isNameAt 12 = .ok (.aload_n 0, 1) := by decide +kernel
theorem dX11_isNameAt_13 : decode cX11_isNameAt 13 = .ok (.getfield 184, 3) := by decide +kernel
theorem dX11_isNameAt_16 : decode cX11_isNameAt 16 = .ok (.isub, 1) := by decide +kernel
theorem dX11_isNameAt_17 : decode cX11_isNameAt 17 = .ok (.if_icmp .eq 5, 3) := by decide +kernel
theorem dX11_isNameAt_20 : decode cX11_isNameAt 20 = .ok (.iconst 0, 1) := by decide +kernel
theorem dX11_isNameAt_21 : decode cX11_isNameAt 21 = .ok (.ireturn, 1) := by decide +kernel
theorem dX11_isNameAt_22 : decode cX11_isNameAt 22 = .ok (.iconst 0, 1) := by decide +kernel
theorem dX11_isNameAt_23 : decode cX11_isNameAt 23 = .ok (.istore_n 2, 1) := by decide +kernel
theorem dX11_isNameAt_24 : decode cX11_isNameAt 24 = .ok (.iload_n 2, 1) := by decide +kernel
theorem dX11_isNameAt_25 : decode cX11_isNameAt 25 = .ok (.aload_n 0, 1) := by decide +kernel
theorem dX11_isNameAt_26 : decode cX11_isNameAt 26 = .ok (.getfield 181, 3) := by decide +kernel
theorem dX11_isNameAt_29 : decode cX11_isNameAt 29 = .ok (.aload_n 0, 1) := by decide +kernel
theorem dX11_isNameAt_30 : decode cX11_isNameAt 30 = .ok (.getfield 184, 3) := by decide +kernel
theorem dX11_isNameAt_33 : decode cX11_isNameAt 33 = .ok (.isub, 1) := by decide +kernel
theorem dX11_isNameAt_34 : decode cX11_isNameAt 34 = .ok (.if_icmp .ge 35, 3) := by decide +kernel
theorem dX11_isNameAt_37 : decode cX11_isNameAt 37 = .ok (.aload_n 0, 1) := by decide +kernel
theorem dX11_isNameAt_38 : decode cX11_isNameAt 38 = .ok (.getfield 7, 3) := by decide +kernel
theorem dX11_isNameAt_41 : decode cX11_isNameAt 41 = .ok (.iload_n 1, 1) := by decide +kernel
theorem dX11_isNameAt_42 : decode cX11_isNameAt 42 = .ok (.iconst 1, 1) := by decide +kernel
theorem dX11_isNameAt_43 : decode cX11_isNameAt 43 = .ok (.iadd, 1) := by decide +kernel
theorem dX11_isNameAt_44 : decode cX11_isNameAt 44 = .ok (.iload_n 2, 1) := by decide +kernel
theorem dX11_isNameAt_45 : decode cX11_isNameAt 45 = .ok (.iadd, 1) := by decide +kernel
theorem dX11_isNameAt_46 : decode cX11_isNameAt 46 = .ok (.iaload, 1) := by decide +kernel
theorem dX11_isNameAt_47 : decode cX11_isNameAt 47 = .ok (.aload_n 0, 1) := by decide +kernel
theorem dX11_isNameAt_48 : decode cX11_isNameAt 48 = .ok (.getfield 25, 3) := by decide +kernel
theorem dX11_isNameAt_51 : decode cX11_isNameAt 51 = .ok (.aload_n 0, 1) := by decide +kernel
theorem dX11_isNameAt_52 : decode cX11_isNameAt 52 = .ok (.getfield 184, 3) := by decide +kernel
theorem dX11_isNameAt_55 : decode cX11_isNameAt 55 = .ok (.iload_n 2, 1) := by decide +kernel
theorem dX11_isNameAt_56 : decode cX11_isNameAt 56 = .ok (.iadd, 1) := by decide +kernel
theorem dX11_isNameAt_57 : decode cX11_isNameAt 57 = .ok (.iaload, 1) := by decide +kernel
theorem dX11_isNameAt_58 : decode cX11_isNameAt 58 = .ok (.if_icmp .eq 5, 3) := by decide +kernel
theorem dX11_isNameAt_61 : decode cX11_isNameAt 61 = .ok (.iconst 0, 1) := by decide +kernel
theorem dX11_isNameAt_62 : decode cX11_isNameAt 62 = .ok (.ireturn, 1) := by decide +kernel
theorem dX11_isNameAt_63 : decode cX11_isNameAt 63 = .ok (.iinc 2 1, 3) := by decide +kernel
theorem dX11_isNameAt_66 : decode cX11_isNameAt 66 = .ok (.goto (-42), 3) := by decide +kernel
theorem dX11_isNameAt_69 : decode cX11_isNameAt 69 = .ok (.iconst 1, 1) := by decide +kernel
theorem dX11_isNameAt_70 : decode cX11_isNameAt 70 = .ok (.ireturn, 1) := by decide +kernel
theorem dX11_nameHere_0 : decode cX11_nameHere 0 = .ok (.iconst 0, 1) := by decide +kernel
theorem dX11_nameHere_1 : decode cX11_nameHere 1 = .ok (.istore_n 3, 1) := by decide +kernel
theorem dX11_nameHere_2 : decode cX11_nameHere 2 = .ok (.iload_n 3, 1) := by decide +kernel
theorem dX11_nameHere_3 : decode cX11_nameHere 3 = .ok (.aload_n 0, 1) := by decide +kernel
theorem dX11_nameHere_4 : decode cX11_nameHere 4 = .ok (.getfield 7, 3) := by decide +kernel
theorem dX11_nameHere_7 : decode cX11_nameHere 7 = .ok (.iload_n 2, 1) := by decide +kernel
theorem dX11_nameHere_8 : decode cX11_nameHere 8 = .ok (.iaload, 1) := by decide +kernel
theorem dX11_nameHere_9 : decode cX11_nameHere 9 = .ok (.if_icmp .ge 24, 3) := by decide +kernel
theorem dX11_nameHere_12 : decode cX11_nameHere 12 = .ok (.aload_n 0, 1) := by decide +kernel
theorem dX11_nameHere_13 : decode cX11_nameHere 13 = .ok (.iload_n 1, 1) := by decide +kernel
theorem dX11_nameHere_14 : decode cX11_nameHere 14 = .ok (.bipush 12, 2) := by decide +kernel
theorem dX11_nameHere_16 : decode cX11_nameHere 16 = .ok (.iload_n 3, 1) := by decide +kernel
theorem dX11_nameHere_17 : decode cX11_nameHere 17 = .ok (.imul, 1) := by decide +kernel
theorem dX11_nameHere_18 : decode cX11_nameHere 18 = .ok (.iadd, 1) := by decide +kernel
theorem dX11_nameHere_19 : decode cX11_nameHere 19 = .ok (.invokevirtual 224, 3) := by decide +kernel
theorem dX11_nameHere_22 : decode cX11_nameHere 22 = .ok (.ifCond .eq 5, 3) := by decide +kernel
theorem dX11_nameHere_25 : decode cX11_nameHere 25 = .ok (.iload_n 3, 1) := by decide +kernel
theorem dX11_nameHere_26 : decode cX11_nameHere 26 = .ok (.ireturn, 1) := by decide +kernel
theorem dX11_nameHere_27 : decode cX11_nameHere 27 = .ok (.iinc 3 1, 3) := by decide +kernel
theorem dX11_nameHere_30 : decode cX11_nameHere 30 = .ok (.goto (-28), 3) := by decide +kernel
theorem dX11_nameHere_33 : decode cX11_nameHere 33 = .ok (.iconst (-1), 1) := by decide +kernel
theorem dX11_nameHere_34 : decode cX11_nameHere 34 = .ok (.ireturn, 1) := by decide +kernel
theorem dX11_takes_0 : decode cX11_takes 0 = .ok (.aload_n 0, 1) := by decide +kernel
theorem dX11_takes_1 : decode cX11_takes 1 = .ok (.iload_n 2, 1) := by decide +kernel
theorem dX11_takes_2 : decode cX11_takes 2 = .ok (.iload_n 3, 1) := by decide +kernel
theorem dX11_takes_3 : decode cX11_takes 3 = .ok (.invokevirtual 227, 3) := by decide +kernel
theorem dX11_takes_6 : decode cX11_takes 6 = .ok (.ifCond .ne 5, 3) := by decide +kernel
theorem dX11_takes_9 : decode cX11_takes 9 = .ok (.iconst 0, 1) := by decide +kernel
theorem dX11_takes_10 : decode cX11_takes 10 = .ok (.ireturn, 1) := by decide +kernel
theorem dX11_takes_11 : decode cX11_takes 11 = .ok (.aload_n 0, 1) := by decide +kernel
theorem dX11_takes_12 : decode cX11_takes 12 = .ok (.getfield 32, 3) := by decide +kernel
theorem dX11_takes_15 : decode cX11_takes 15 = .ok (.iload_n 1, 1) := by decide +kernel
theorem dX11_takes_16 : decode cX11_takes 16 = .ok (.aload_n 0, 1) := by decide +kernel
theorem dX11_takes_17 : decode cX11_takes 17 = .ok (.getfield 214, 3) := by decide +kernel
theorem dX11_takes_20 : decode cX11_takes 20 = .ok (.iastore, 1) := by decide +kernel
theorem dX11_takes_21 : decode cX11_takes 21 = .ok (.iconst 1, 1) := by decide +kernel
theorem dX11_takes_22 : decode cX11_takes 22 = .ok (.ireturn, 1) := by decide +kernel
theorem dX11_takesKnown_0 : decode cX11_takesKnown 0 = .ok (.aload_n 0, 1) := by decide +kernel
theorem dX11_takesKnown_1 : decode cX11_takesKnown 1 = .ok (.invokevirtual 230, 3) := by decide +kernel
theorem dX11_takesKnown_4 : decode cX11_takesKnown 4 = .ok (.ifCond .ne 5, 3) := by decide +kernel
theorem dX11_takesKnown_7 : decode cX11_takesKnown 7 = .ok (.iconst 0, 1) := by decide +kernel
theorem dX11_takesKnown_8 : decode cX11_takesKnown 8 = .ok (.ireturn, 1) := by decide +kernel
theorem dX11_takesKnown_9 : decode cX11_takesKnown 9 = .ok (.aload_n 0, 1) := by decide +kernel
theorem dX11_takesKnown_10 : decode cX11_takesKnown 10 = .ok (.getfield 32, 3) := by decide +kernel
theorem dX11_takesKnown_13 : decode cX11_takesKnown 13 = .ok (.iconst 0, 1) := by decide +kernel
theorem dX11_takesKnown_14 : decode cX11_takesKnown 14 = .ok (.aload_n 0, 1) := by decide +kernel
theorem dX11_takesKnown_15 : decode cX11_takesKnown 15 = .ok (.iload_n 1, 1) := by decide +kernel
theorem dX11_takesKnown_16 : decode cX11_takesKnown 16 = .ok (.iload_n 2, 1) := by decide +kernel
theorem dX11_takesKnown_17 : decode cX11_takesKnown 17 = .ok (.invokevirtual 234, 3) := by decide +kernel
theorem dX11_takesKnown_20 : decode cX11_takesKnown 20 = .ok (.iastore, 1) := by decide +kernel
theorem dX11_takesKnown_21 : decode cX11_takesKnown 21 = .ok (.aload_n 0, 1) := by decide +kernel
theorem dX11_takesKnown_22 : decode cX11_takesKnown 22 = .ok (.getfield 32, 3) := by decide +kernel
theorem dX11_takesKnown_25 : decode cX11_takesKnown 25 = .ok (.iconst 0, 1) := by decide +kernel
theorem dX11_takesKnown_26 : decode cX11_takesKnown 26 = .ok (.iaload, 1) := by decide +kernel
theorem dX11_takesKnown_27 : decode cX11_takesKnown 27 = .ok (.iconst (-1), 1) := by decide +kernel
theorem dX11_takesKnown_28 : decode cX11_takesKnown 28 = .ok (.if_icmp .ne 9, 3) := by decide +kernel
theorem dX11_takesKnown_31 : decode cX11_takesKnown 31 = .ok (.aload_n 0, 1) := by decide +kernel
theorem dX11_takesKnown_32 : decode cX11_takesKnown 32 = .ok (.iconst 4, 1) := by decide +kernel
theorem dX11_takesKnown_33 : decode cX11_takesKnown 33 = .ok (.invokevirtual 211, 3) := by decide +kernel
theorem dX11_takesKnown_36 : decode cX11_takesKnown 36 = .ok (.ireturn, 1) := by decide +kernel
theorem dX11_takesKnown_37 : decode cX11_takesKnown 37 = .ok (.aload_n 0, 1) := by decide +kernel
theorem dX11_takesKnown_38 : decode cX11_takesKnown 38 = .ok (.invokevirtual 221, 3) := by decide +kernel
theorem dX11_takesKnown_41 : decode cX11_takesKnown 41 = .ok (.iconst 1, 1) := by decide +kernel
theorem dX11_takesKnown_42 : decode cX11_takesKnown 42 = .ok (.ireturn, 1) := by decide +kernel
theorem dX11_takesNewName_0 : decode cX11_takesNewName 0 = .ok (.aload_n 0, 1) := by decide +kernel
theorem dX11_takesNewName_1 : decode cX11_takesNewName 1 = .ok (.invokevirtual 230, 3) := by decide +kernel
theorem dX11_takesNewName_4 : decode cX11_takesNewName 4 = .ok (.ifCond .ne 5, 3) := by decide +kernel
theorem dX11_takesNewName_7 : decode cX11_takesNewName 7 = .ok (.iconst 0, 1) := by decide +kernel
theorem dX11_takesNewName_8 : decode cX11_takesNewName 8 = .ok (.ireturn, 1) := by decide +kernel
theorem dX11_takesNewName_9 : decode cX11_takesNewName 9 = .ok (.aload_n 0, 1) := by decide +kernel
theorem dX11_takesNewName_10 : decode cX11_takesNewName 10 = .ok (.iload_n 1, 1) := by decide +kernel
theorem dX11_takesNewName_11 : decode cX11_takesNewName 11 = .ok (.iload_n 2, 1) := by decide +kernel
theorem dX11_takesNewName_12 : decode cX11_takesNewName 12 = .ok (.invokevirtual 234, 3) := by decide +kernel
theorem dX11_takesNewName_15 : decode cX11_takesNewName 15 = .ok (.iconst (-1), 1) := by decide +kernel
theorem dX11_takesNewName_16 : decode cX11_takesNewName 16 = .ok (.if_icmp .eq 9, 3) := by decide +kernel
theorem dX11_takesNewName_19 : decode cX11_takesNewName 19 = .ok (.aload_n 0, 1) := by decide +kernel
theorem dX11_takesNewName_20 : decode cX11_takesNewName 20 = .ok (.iconst 3, 1) := by decide +kernel
theorem dX11_takesNewName_21 : decode cX11_takesNewName 21 = .ok (.invokevirtual 211, 3) := by decide +kernel
theorem dX11_takesNewName_24 : decode cX11_takesNewName 24 = .ok (.ireturn, 1) := by decide +kernel
theorem dX11_takesNewName_25 : decode cX11_takesNewName 25 = .ok (.iload_n 1, 1) := by decide +kernel
theorem dX11_takesNewName_26 : decode cX11_takesNewName 26 = .ok (.bipush 12, 2) := by decide +kernel
theorem dX11_takesNewName_28 : decode cX11_takesNewName 28 = .ok (.aload_n 0, 1) := by decide +kernel
theorem dX11_takesNewName_29 : decode cX11_takesNewName 29 = .ok (.getfield 7, 3) := by decide +kernel
theorem dX11_takesNewName_32 : decode cX11_takesNewName 32 = .ok (.iload_n 2, 1) := by decide +kernel
theorem dX11_takesNewName_33 : decode cX11_takesNewName 33 = .ok (.iaload, 1) := by decide +kernel
theorem dX11_takesNewName_34 : decode cX11_takesNewName 34 = .ok (.imul, 1) := by decide +kernel
theorem dX11_takesNewName_35 : decode cX11_takesNewName 35 = .ok (.iadd, 1) := by decide +kernel
theorem dX11_takesNewName_36 : decode cX11_takesNewName 36 = .ok (.istore_n 3, 1) := by decide +kernel
theorem dX11_takesNewName_37 : decode cX11_takesNewName 37 = .ok (.iconst 0, 1) := by decide +kernel
theorem dX11_takesNewName_38 : decode cX11_takesNewName 38 = .ok (.istore 4, 2) := by decide +kernel
theorem dX11_takesNewName_40 : decode cX11_takesNewName 40 = .ok (.iload 4, 2) := by decide +kernel
theorem dX11_takesNewName_42 : decode cX11_takesNewName 42 = .ok (.bipush 6, 2) := by decide +kernel
theorem dX11_takesNewName_44 : decode cX11_takesNewName 44 = .ok (.if_icmp .ge 50, 3) := by decide +kernel
theorem dX11_takesNewName_47 : decode cX11_takesNewName 47 = .ok (.aload_n 0, 1) := by decide +kernel
theorem dX11_takesNewName_48 : decode cX11_takesNewName 48 = .ok (.getfield 7, 3) := by decide +kernel
theorem dX11_takesNewName_51 : decode cX11_takesNewName 51 = .ok (.iload_n 3, 1) := by decide +kernel
theorem dX11_takesNewName_52 : decode cX11_takesNewName 52 = .ok (.iconst 1, 1) := by decide +kernel
theorem dX11_takesNewName_53 : decode cX11_takesNewName 53 = .ok (.iadd, 1) := by decide +kernel
theorem dX11_takesNewName_54 : decode cX11_takesNewName 54 = .ok (.iload 4, 2) := by decide +kernel
theorem dX11_takesNewName_56 : decode cX11_takesNewName 56 = .ok (.iadd, 1) := by decide +kernel
theorem dX11_takesNewName_57 : decode cX11_takesNewName 57 = .ok (.iload 4, 2) := by decide +kernel
theorem dX11_takesNewName_59 : decode cX11_takesNewName 59 = .ok (.aload_n 0, 1) := by decide +kernel
theorem dX11_takesNewName_60 : decode cX11_takesNewName 60 = .ok (.getfield 181, 3) := by decide +kernel
theorem dX11_takesNewName_63 : decode cX11_takesNewName 63 = .ok (.aload_n 0, 1) := by decide +kernel
theorem dX11_takesNewName_64 : decode cX11_takesNewName 64 = .ok (.getfield 184, 3) := by decide +kernel
theorem dX11_takesNewName_67 : decode cX11_takesNewName 67 = .ok (.isub, 1) := by decide +kernel
theorem dX11_takesNewName_68 : decode cX11_takesNewName 68 = .ok (.if_icmp .ge 18, 3) := by decide +kernel
theorem dX11_takesNewName_71 : decode cX11_takesNewName 71 = .ok (.aload_n 0, 1) := by decide +kernel
theorem dX11_takesNewName_72 : decode cX11_takesNewName 72 = .ok (.getfield 25, 3) := by decide +kernel
theorem dX11_takesNewName_75 : decode cX11_takesNewName 75 = .ok (.aload_n 0, 1) := by decide +kernel
theorem dX11_takesNewName_76 : decode cX11_takesNewName 76 = .ok (.getfield 184, 3) := by decide +kernel
theorem dX11_takesNewName_79 : decode cX11_takesNewName 79 = .ok (.iload 4, 2) := by decide +kernel
theorem dX11_takesNewName_81 : decode cX11_takesNewName 81 = .ok (.iadd, 1) := by decide +kernel
theorem dX11_takesNewName_82 : decode cX11_takesNewName 82 = .ok (.iaload, 1) := by decide +kernel
theorem dX11_takesNewName_83 : decode cX11_takesNewName 83 = .ok (.goto 4, 3) := by decide +kernel
theorem dX11_takesNewName_86 : decode cX11_takesNewName 86 = .ok (.iconst 0, 1) := by decide +kernel
theorem dX11_takesNewName_87 : decode cX11_takesNewName 87 = .ok (.iastore, 1) := by decide +kernel
theorem dX11_takesNewName_88 : decode cX11_takesNewName 88 = .ok (.iinc 4 1, 3) := by decide +kernel
theorem dX11_takesNewName_91 : decode cX11_takesNewName 91 = .ok (.goto (-51), 3) := by decide +kernel
theorem dX11_takesNewName_94 : decode cX11_takesNewName 94 = .ok (.aload_n 0, 1) := by decide +kernel
theorem dX11_takesNewName_95 : decode cX11_takesNewName 95 = .ok (.getfield 32, 3) := by decide +kernel
theorem dX11_takesNewName_98 : decode cX11_takesNewName 98 = .ok (.iconst 3, 1) := by decide +kernel
theorem dX11_takesNewName_99 : decode cX11_takesNewName 99 = .ok (.aload_n 0, 1) := by decide +kernel
theorem dX11_takesNewName_100 : decode cX11_takesNewName 100 = .ok (.getfield 181, 3) := by decide +kernel
theorem dX11_takesNewName_103 : decode cX11_takesNewName 103 = .ok (.aload_n 0, 1) := by decide +kernel
theorem dX11_takesNewName_104 : decode cX11_takesNewName 104 = .ok (.getfield 184, 3) := by decide +kernel
theorem dX11_takesNewName_107 : decode cX11_takesNewName 107 = .ok (.isub, 1) := by decide +kernel
theorem dX11_takesNewName_108 : decode cX11_takesNewName 108 = .ok (.iastore, 1) := by decide +kernel
theorem dX11_takesNewName_109 : decode cX11_takesNewName 109 = .ok (.aload_n 0, 1) := by decide +kernel
theorem dX11_takesNewName_110 : decode cX11_takesNewName 110 = .ok (.invokevirtual 221, 3) := by decide +kernel
theorem dX11_takesNewName_113 : decode cX11_takesNewName 113 = .ok (.iconst 1, 1) := by decide +kernel
theorem dX11_takesNewName_114 : decode cX11_takesNewName 114 = .ok (.ireturn, 1) := by decide +kernel
theorem dX11_takesChoice_0 : decode cX11_takesChoice 0 = .ok (.iload_n 2, 1) := by decide +kernel
theorem dX11_takesChoice_1 : decode cX11_takesChoice 1 = .ok (.ifCond .ne 13, 3) := by decide +kernel
theorem dX11_takesChoice_4 : decode cX11_takesChoice 4 = .ok (.iload_n 3, 1) := by decide +kernel
theorem dX11_takesChoice_5 : decode cX11_takesChoice 5 = .ok (.ifCond .ne 9, 3) := by decide +kernel
theorem dX11_takesChoice_8 : decode cX11_takesChoice 8 = .ok (.aload_n 0, 1) := by decide +kernel
theorem dX11_takesChoice_9 : decode cX11_takesChoice 9 = .ok (.iconst 1, 1) := by decide +kernel
theorem dX11_takesChoice_10 : decode cX11_takesChoice 10 = .ok (.invokevirtual 211, 3) := by decide +kernel
theorem dX11_takesChoice_13 : decode cX11_takesChoice 13 = .ok (.ireturn, 1) := by decide +kernel
theorem dX11_takesChoice_14 : decode cX11_takesChoice 14 = .ok (.aload_n 0, 1) := by decide +kernel
theorem dX11_takesChoice_15 : decode cX11_takesChoice 15 = .ok (.getfield 32, 3) := by decide +kernel
theorem dX11_takesChoice_18 : decode cX11_takesChoice 18 = .ok (.iload_n 1, 1) := by decide +kernel
theorem dX11_takesChoice_19 : decode cX11_takesChoice 19 = .ok (.iload_n 2, 1) := by decide +kernel
theorem dX11_takesChoice_20 : decode cX11_takesChoice 20 = .ok (.invokestatic 237, 3) := by decide +kernel
theorem dX11_takesChoice_23 : decode cX11_takesChoice 23 = .ok (.iastore, 1) := by decide +kernel
theorem dX11_takesChoice_24 : decode cX11_takesChoice 24 = .ok (.aload_n 0, 1) := by decide +kernel
theorem dX11_takesChoice_25 : decode cX11_takesChoice 25 = .ok (.invokevirtual 221, 3) := by decide +kernel
theorem dX11_takesChoice_28 : decode cX11_takesChoice 28 = .ok (.iconst 1, 1) := by decide +kernel
theorem dX11_takesChoice_29 : decode cX11_takesChoice 29 = .ok (.ireturn, 1) := by decide +kernel
theorem dX11_readCat_0 : decode cX11_readCat 0 = .ok (.aload_n 0, 1) := by decide +kernel
theorem dX11_readCat_1 : decode cX11_readCat 1 = .ok (.getfield 7, 3) := by decide +kernel
theorem dX11_readCat_4 : decode cX11_readCat 4 = .ok (.iconst 0, 1) := by decide +kernel
theorem dX11_readCat_5 : decode cX11_readCat 5 = .ok (.iaload, 1) := by decide +kernel
theorem dX11_readCat_6 : decode cX11_readCat 6 = .ok (.bipush 8, 2) := by decide +kernel
theorem dX11_readCat_8 : decode cX11_readCat 8 = .ok (.if_icmp .ne 9, 3) := by decide +kernel
theorem dX11_readCat_11 : decode cX11_readCat 11 = .ok (.aload_n 0, 1) := by decide +kernel
theorem dX11_readCat_12 : decode cX11_readCat 12 = .ok (.iconst 5, 1) := by decide +kernel
theorem dX11_readCat_13 : decode cX11_readCat 13 = .ok (.invokevirtual 211, 3) := by decide +kernel
theorem dX11_readCat_16 : decode cX11_readCat 16 = .ok (.ireturn, 1) := by decide +kernel
theorem dX11_readCat_17 : decode cX11_readCat 17 = .ok (.aload_n 0, 1) := by decide +kernel
theorem dX11_readCat_18 : decode cX11_readCat 18 = .ok (.invokevirtual 221, 3) := by decide +kernel
theorem dX11_readCat_21 : decode cX11_readCat 21 = .ok (.aload_n 0, 1) := by decide +kernel
theorem dX11_readCat_22 : decode cX11_readCat 22 = .ok (.bipush 65, 2) := by decide +kernel
theorem dX11_readCat_24 : decode cX11_readCat 24 = .ok (.iconst 0, 1) := by decide +kernel
theorem dX11_readCat_25 : decode cX11_readCat 25 = .ok (.invokevirtual 241, 3) := by decide +kernel
theorem dX11_readCat_28 : decode cX11_readCat 28 = .ok (.ifCond .eq 34, 3) := by decide +kernel
theorem dX11_readCat_31 : decode cX11_readCat 31 = .ok (.aload_n 0, 1) := by decide +kernel
theorem dX11_readCat_32 : decode cX11_readCat 32 = .ok (.iconst 0, 1) := by decide +kernel
theorem dX11_readCat_33 : decode cX11_readCat 33 = .ok (.iconst 1, 1) := by decide +kernel
theorem dX11_readCat_34 : decode cX11_readCat 34 = .ok (.bipush 9, 2) := by decide +kernel
theorem dX11_readCat_36 : decode cX11_readCat 36 = .ok (.invokevirtual 244, 3) := by decide +kernel
theorem dX11_readCat_39 : decode cX11_readCat 39 = .ok (.ifCond .eq 23, 3) := by decide +kernel
theorem dX11_readCat_42 : decode cX11_readCat 42 = .ok (.aload_n 0, 1) := by decide +kernel
theorem dX11_readCat_43 : decode cX11_readCat 43 = .ok (.iconst 1, 1) := by decide +kernel
theorem dX11_readCat_44 : decode cX11_readCat 44 = .ok (.aload_n 0, 1) := by decide +kernel
theorem dX11_readCat_45 : decode cX11_readCat 45 = .ok (.ldc 247, 2) := by decide +kernel
theorem dX11_readCat_47 : decode cX11_readCat 47 = .ok (.invokevirtual 249, 3) := by decide +kernel
theorem dX11_readCat_50 : decode cX11_readCat 50 = .ok (.aload_n 0, 1) := by decide +kernel
theorem dX11_readCat_51 : decode cX11_readCat 51 = .ok (.ldc 253, 2) := by decide +kernel
theorem dX11_readCat_53 : decode cX11_readCat 53 = .ok (.invokevirtual 249, 3) := by decide +kernel
theorem dX11_readCat_56 : decode cX11_readCat 56 = .ok (.invokevirtual 255, 3) := by decide +kernel
theorem dX11_readCat_59 : decode cX11_readCat 59 = .ok (.ifCond .ne 5, 3) := by decide +kernel
theorem dX11_readCat_62 : decode cX11_readCat 62 = .ok (.iconst 0, 1) := by decide +kernel
theorem dX11_readCat_63 : decode cX11_readCat 63 = .ok (.ireturn, 1) := by decide +kernel
theorem dX11_readCat_64 : decode cX11_readCat 64 = .ok (.aload_n 0, 1) := by decide +kernel
theorem dX11_readCat_65 : decode cX11_readCat 65 = .ok (.aload_n 0, 1) := by decide +kernel
theorem dX11_readCat_66 : decode cX11_readCat 66 = .ok (.getfield 32, 3) := by decide +kernel
theorem dX11_readCat_69 : decode cX11_readCat 69 = .ok (.iconst 3, 1) := by decide +kernel
theorem dX11_readCat_70 : decode cX11_readCat 70 = .ok (.iaload, 1) := by decide +kernel
theorem dX11_readCat_71 : decode cX11_readCat 71 = .ok (.aload_n 0, 1) := by decide +kernel
theorem dX11_readCat_72 : decode cX11_readCat 72 = .ok (.getfield 32, 3) := by decide +kernel
theorem dX11_readCat_75 : decode cX11_readCat 75 = .ok (.iconst 0, 1) := by decide +kernel
theorem dX11_readCat_76 : decode cX11_readCat 76 = .ok (.iaload, 1) := by decide +kernel
theorem dX11_readCat_77 : decode cX11_readCat 77 = .ok (.aload_n 0, 1) := by decide +kernel
theorem dX11_readCat_78 : decode cX11_readCat 78 = .ok (.getfield 32, 3) := by decide +kernel
theorem dX11_readCat_81 : decode cX11_readCat 81 = .ok (.iconst 1, 1) := by decide +kernel
theorem dX11_readCat_82 : decode cX11_readCat 82 = .ok (.iaload, 1) := by decide +kernel
theorem dX11_readCat_83 : decode cX11_readCat 83 = .ok (.invokevirtual 51, 3) := by decide +kernel
theorem dX11_readCat_86 : decode cX11_readCat 86 = .ok (.aload_n 0, 1) := by decide +kernel
theorem dX11_readCat_87 : decode cX11_readCat 87 = .ok (.invokevirtual 259, 3) := by decide +kernel
theorem dX11_readCat_90 : decode cX11_readCat 90 = .ok (.ireturn, 1) := by decide +kernel
theorem dX11_readSack_0 : decode cX11_readSack 0 = .ok (.aload_n 0, 1) := by decide +kernel
theorem dX11_readSack_1 : decode cX11_readSack 1 = .ok (.getfield 7, 3) := by decide +kernel
theorem dX11_readSack_4 : decode cX11_readSack 4 = .ok (.iconst 1, 1) := by decide +kernel
theorem dX11_readSack_5 : decode cX11_readSack 5 = .ok (.iaload, 1) := by decide +kernel
theorem dX11_readSack_6 : decode cX11_readSack 6 = .ok (.bipush 6, 2) := by decide +kernel
theorem dX11_readSack_8 : decode cX11_readSack 8 = .ok (.if_icmp .ne 9, 3) := by decide +kernel
theorem dX11_readSack_11 : decode cX11_readSack 11 = .ok (.aload_n 0, 1) := by decide +kernel
theorem dX11_readSack_12 : decode cX11_readSack 12 = .ok (.iconst 5, 1) := by decide +kernel
theorem dX11_readSack_13 : decode cX11_readSack 13 = .ok (.invokevirtual 211, 3) := by decide +kernel
theorem dX11_readSack_16 : decode cX11_readSack 16 = .ok (.ireturn, 1) := by decide +kernel
theorem dX11_readSack_17 : decode cX11_readSack 17 = .ok (.aload_n 0, 1) := by decide +kernel
theorem dX11_readSack_18 : decode cX11_readSack 18 = .ok (.invokevirtual 221, 3) := by decide +kernel
theorem dX11_readSack_21 : decode cX11_readSack 21 = .ok (.aload_n 0, 1) := by decide +kernel
theorem dX11_readSack_22 : decode cX11_readSack 22 = .ok (.sipush 161, 3) := by decide +kernel
theorem dX11_readSack_25 : decode cX11_readSack 25 = .ok (.iconst 1, 1) := by decide +kernel
theorem dX11_readSack_26 : decode cX11_readSack 26 = .ok (.invokevirtual 241, 3) := by decide +kernel
theorem dX11_readSack_29 : decode cX11_readSack 29 = .ok (.ifCond .eq 26, 3) := by decide +kernel
theorem dX11_readSack_32 : decode cX11_readSack 32 = .ok (.aload_n 0, 1) := by decide +kernel
theorem dX11_readSack_33 : decode cX11_readSack 33 = .ok (.iconst 0, 1) := by decide +kernel
theorem dX11_readSack_34 : decode cX11_readSack 34 = .ok (.iconst 0, 1) := by decide +kernel
theorem dX11_readSack_35 : decode cX11_readSack 35 = .ok (.sipush 999, 3) := by decide +kernel
theorem dX11_readSack_38 : decode cX11_readSack 38 = .ok (.invokevirtual 244, 3) := by decide +kernel
theorem dX11_readSack_41 : decode cX11_readSack 41 = .ok (.ifCond .eq 14, 3) := by decide +kernel
theorem dX11_readSack_44 : decode cX11_readSack 44 = .ok (.aload_n 0, 1) := by decide +kernel
theorem dX11_readSack_45 : decode cX11_readSack 45 = .ok (.iconst 1, 1) := by decide +kernel
theorem dX11_readSack_46 : decode cX11_readSack 46 = .ok (.iconst 0, 1) := by decide +kernel
theorem dX11_readSack_47 : decode cX11_readSack 47 = .ok (.bipush 99, 2) := by decide +kernel
theorem dX11_readSack_49 : decode cX11_readSack 49 = .ok (.invokevirtual 244, 3) := by decide +kernel
theorem dX11_readSack_52 : decode cX11_readSack 52 = .ok (.ifCond .ne 5, 3) := by decide +kernel
theorem dX11_readSack_55 : decode cX11_readSack 55 = .ok (.iconst 0, 1) := by decide +kernel
theorem dX11_readSack_56 : decode cX11_readSack 56 = .ok (.ireturn, 1) := by decide +kernel
theorem dX11_readSack_57 : decode cX11_readSack 57 = .ok (.aload_n 0, 1) := by decide +kernel
theorem dX11_readSack_58 : decode cX11_readSack 58 = .ok (.iconst 2, 1) := by decide +kernel
theorem dX11_readSack_59 : decode cX11_readSack 59 = .ok (.aload_n 0, 1) := by decide +kernel
theorem dX11_readSack_60 : decode cX11_readSack 60 = .ok (.ldc_w 262, 3) := by decide +kernel
theorem dX11_readSack_63 : decode cX11_readSack 63 = .ok (.invokevirtual 249, 3) := by decide +kernel
theorem dX11_readSack_66 : decode cX11_readSack 66 = .ok (.aload_n 0, 1) := by decide +kernel
theorem dX11_readSack_67 : decode cX11_readSack 67 = .ok (.ldc_w 264, 3) := by decide +kernel
theorem dX11_readSack_70 : decode cX11_readSack 70 = .ok (.invokevirtual 249, 3) := by decide +kernel
theorem dX11_readSack_73 : decode cX11_readSack 73 = .ok (.invokevirtual 255, 3) := by decide +kernel
theorem dX11_readSack_76 : decode cX11_readSack 76 = .ok (.ifCond .ne 5, 3) := by decide +kernel
theorem dX11_readSack_79 : decode cX11_readSack 79 = .ok (.iconst 0, 1) := by decide +kernel
theorem dX11_readSack_80 : decode cX11_readSack 80 = .ok (.ireturn, 1) := by decide +kernel
theorem dX11_readSack_81 : decode cX11_readSack 81 = .ok (.aload_n 0, 1) := by decide +kernel
theorem dX11_readSack_82 : decode cX11_readSack 82 = .ok (.aload_n 0, 1) := by decide +kernel
theorem dX11_readSack_83 : decode cX11_readSack 83 = .ok (.getfield 32, 3) := by decide +kernel
theorem dX11_readSack_86 : decode cX11_readSack 86 = .ok (.iconst 3, 1) := by decide +kernel
theorem dX11_readSack_87 : decode cX11_readSack 87 = .ok (.iaload, 1) := by decide +kernel
theorem dX11_readSack_88 : decode cX11_readSack 88 = .ok (.aload_n 0, 1) := by decide +kernel
theorem dX11_readSack_89 : decode cX11_readSack 89 = .ok (.getfield 32, 3) := by decide +kernel
theorem dX11_readSack_92 : decode cX11_readSack 92 = .ok (.iconst 0, 1) := by decide +kernel
theorem dX11_readSack_93 : decode cX11_readSack 93 = .ok (.iaload, 1) := by decide +kernel
theorem dX11_readSack_94 : decode cX11_readSack 94 = .ok (.aload_n 0, 1) := by decide +kernel
theorem dX11_readSack_95 : decode cX11_readSack 95 = .ok (.getfield 32, 3) := by decide +kernel
theorem dX11_readSack_98 : decode cX11_readSack 98 = .ok (.iconst 1, 1) := by decide +kernel
theorem dX11_readSack_99 : decode cX11_readSack 99 = .ok (.iaload, 1) := by decide +kernel
theorem dX11_readSack_100 : decode cX11_readSack 100 = .ok (.aload_n 0, 1) := by decide +kernel
theorem dX11_readSack_101 : decode cX11_readSack 101 = .ok (.getfield 32, 3) := by decide +kernel
theorem dX11_readSack_104 : decode cX11_readSack 104 = .ok (.iconst 2, 1) := by decide +kernel
theorem dX11_readSack_105 : decode cX11_readSack 105 = .ok (.iaload, 1) := by decide +kernel
theorem dX11_readSack_106 : decode cX11_readSack 106 = .ok (.invokevirtual 55, 3) := by decide +kernel
theorem dX11_readSack_109 : decode cX11_readSack 109 = .ok (.aload_n 0, 1) := by decide +kernel
theorem dX11_readSack_110 : decode cX11_readSack 110 = .ok (.invokevirtual 259, 3) := by decide +kernel
theorem dX11_readSack_113 : decode cX11_readSack 113 = .ok (.ireturn, 1) := by decide +kernel
theorem dX11_readShift_0 : decode cX11_readShift 0 = .ok (.aload_n 0, 1) := by decide +kernel
theorem dX11_readShift_1 : decode cX11_readShift 1 = .ok (.getfield 7, 3) := by decide +kernel
theorem dX11_readShift_4 : decode cX11_readShift 4 = .ok (.iconst 2, 1) := by decide +kernel
theorem dX11_readShift_5 : decode cX11_readShift 5 = .ok (.iaload, 1) := by decide +kernel
theorem dX11_readShift_6 : decode cX11_readShift 6 = .ok (.bipush 12, 2) := by decide +kernel
theorem dX11_readShift_8 : decode cX11_readShift 8 = .ok (.if_icmp .ne 9, 3) := by decide +kernel
theorem dX11_readShift_11 : decode cX11_readShift 11 = .ok (.aload_n 0, 1) := by decide +kernel
theorem dX11_readShift_12 : decode cX11_readShift 12 = .ok (.iconst 5, 1) := by decide +kernel
theorem dX11_readShift_13 : decode cX11_readShift 13 = .ok (.invokevirtual 211, 3) := by decide +kernel
theorem dX11_readShift_16 : decode cX11_readShift 16 = .ok (.ireturn, 1) := by decide +kernel
theorem dX11_readShift_17 : decode cX11_readShift 17 = .ok (.aload_n 0, 1) := by decide +kernel
theorem dX11_readShift_18 : decode cX11_readShift 18 = .ok (.invokevirtual 221, 3) := by decide +kernel
theorem dX11_readShift_21 : decode cX11_readShift 21 = .ok (.aload_n 0, 1) := by decide +kernel
theorem dX11_readShift_22 : decode cX11_readShift 22 = .ok (.bipush 65, 2) := by decide +kernel
theorem dX11_readShift_24 : decode cX11_readShift 24 = .ok (.iconst 0, 1) := by decide +kernel
theorem dX11_readShift_25 : decode cX11_readShift 25 = .ok (.invokevirtual 266, 3) := by decide +kernel
theorem dX11_readShift_28 : decode cX11_readShift 28 = .ok (.ifCond .eq 14, 3) := by decide +kernel
theorem dX11_readShift_31 : decode cX11_readShift 31 = .ok (.aload_n 0, 1) := by decide +kernel
theorem dX11_readShift_32 : decode cX11_readShift 32 = .ok (.iconst 1, 1) := by decide +kernel
theorem dX11_readShift_33 : decode cX11_readShift 33 = .ok (.iconst 1, 1) := by decide +kernel
theorem dX11_readShift_34 : decode cX11_readShift 34 = .ok (.bipush 24, 2) := by decide +kernel
theorem dX11_readShift_36 : decode cX11_readShift 36 = .ok (.invokevirtual 244, 3) := by decide +kernel
theorem dX11_readShift_39 : decode cX11_readShift 39 = .ok (.ifCond .ne 5, 3) := by decide +kernel
theorem dX11_readShift_42 : decode cX11_readShift 42 = .ok (.iconst 0, 1) := by decide +kernel
theorem dX11_readShift_43 : decode cX11_readShift 43 = .ok (.ireturn, 1) := by decide +kernel
theorem dX11_readShift_44 : decode cX11_readShift 44 = .ok (.aload_n 0, 1) := by decide +kernel
theorem dX11_readShift_45 : decode cX11_readShift 45 = .ok (.aload_n 0, 1) := by decide +kernel
theorem dX11_readShift_46 : decode cX11_readShift 46 = .ok (.getfield 32, 3) := by decide +kernel
theorem dX11_readShift_49 : decode cX11_readShift 49 = .ok (.iconst 0, 1) := by decide +kernel
theorem dX11_readShift_50 : decode cX11_readShift 50 = .ok (.iaload, 1) := by decide +kernel
theorem dX11_readShift_51 : decode cX11_readShift 51 = .ok (.aload_n 0, 1) := by decide +kernel
theorem dX11_readShift_52 : decode cX11_readShift 52 = .ok (.getfield 32, 3) := by decide +kernel
theorem dX11_readShift_55 : decode cX11_readShift 55 = .ok (.iconst 1, 1) := by decide +kernel
theorem dX11_readShift_56 : decode cX11_readShift 56 = .ok (.iaload, 1) := by decide +kernel
theorem dX11_readShift_57 : decode cX11_readShift 57 = .ok (.invokevirtual 59, 3) := by decide +kernel
theorem dX11_readShift_60 : decode cX11_readShift 60 = .ok (.aload_n 0, 1) := by decide +kernel
theorem dX11_readShift_61 : decode cX11_readShift 61 = .ok (.invokevirtual 259, 3) := by decide +kernel
theorem dX11_readShift_64 : decode cX11_readShift 64 = .ok (.ireturn, 1) := by decide +kernel
theorem dX11_readCell_0 : decode cX11_readCell 0 = .ok (.aload_n 0, 1) := by decide +kernel
theorem dX11_readCell_1 : decode cX11_readCell 1 = .ok (.invokevirtual 221, 3) := by decide +kernel
theorem dX11_readCell_4 : decode cX11_readCell 4 = .ok (.aload_n 0, 1) := by decide +kernel
theorem dX11_readCell_5 : decode cX11_readCell 5 = .ok (.iconst 0, 1) := by decide +kernel
theorem dX11_readCell_6 : decode cX11_readCell 6 = .ok (.iconst 0, 1) := by decide +kernel
theorem dX11_readCell_7 : decode cX11_readCell 7 = .ok (.iload_n 2, 1) := by decide +kernel
theorem dX11_readCell_8 : decode cX11_readCell 8 = .ok (.invokevirtual 244, 3) := by decide +kernel
theorem dX11_readCell_11 : decode cX11_readCell 11 = .ok (.ifCond .ne 5, 3) := by decide +kernel
theorem dX11_readCell_14 : decode cX11_readCell 14 = .ok (.iconst 0, 1) := by decide +kernel
theorem dX11_readCell_15 : decode cX11_readCell 15 = .ok (.ireturn, 1) := by decide +kernel
theorem dX11_readCell_16 : decode cX11_readCell 16 = .ok (.aload_n 0, 1) := by decide +kernel
theorem dX11_readCell_17 : decode cX11_readCell 17 = .ok (.getfield 7, 3) := by decide +kernel
theorem dX11_readCell_20 : decode cX11_readCell 20 = .ok (.iload_n 1, 1) := by decide +kernel
theorem dX11_readCell_21 : decode cX11_readCell 21 = .ok (.aload_n 0, 1) := by decide +kernel
theorem dX11_readCell_22 : decode cX11_readCell 22 = .ok (.getfield 32, 3) := by decide +kernel
theorem dX11_readCell_25 : decode cX11_readCell 25 = .ok (.iconst 0, 1) := by decide +kernel
theorem dX11_readCell_26 : decode cX11_readCell 26 = .ok (.iaload, 1) := by decide +kernel
theorem dX11_readCell_27 : decode cX11_readCell 27 = .ok (.iastore, 1) := by decide +kernel
theorem dX11_readCell_28 : decode cX11_readCell 28 = .ok (.aload_n 0, 1) := by decide +kernel
theorem dX11_readCell_29 : decode cX11_readCell 29 = .ok (.invokevirtual 259, 3) := by decide +kernel
theorem dX11_readCell_32 : decode cX11_readCell 32 = .ok (.ireturn, 1) := by decide +kernel
theorem dX11_readSetupStatement_0 : decode cX11_readSetupStatement 0 = .ok (.aload_n 0, 1) := by decide +kernel
theorem dX11_readSetupStatement_1 : decode cX11_readSetupStatement 1 = .ok (.ldc_w 269, 3) := by decide +kernel
theorem dX11_readSetupStatement_4 : decode cX11_readSetupStatement 4 = .ok (.invokevirtual 249, 3) := by decide +kernel
theorem dX11_readSetupStatement_7 : decode cX11_readSetupStatement 7 = .ok (.ifCond .eq 8, 3) := by decide +kernel
theorem dX11_readSetupStatement_10 : decode cX11_readSetupStatement 10 = .ok (.aload_n 0, 1) := by decide +kernel
theorem dX11_readSetupStatement_11 : decode cX11_readSetupStatement 11 = .ok (.invokevirtual 271, 3) := by decide +kernel
theorem dX11_readSetupStatement_14 : decode cX11_readSetupStatement 14 = .ok (.ireturn, 1) := by decide +kernel
theorem dX11_readSetupStatement_15 : decode cX11_readSetupStatement 15 = .ok (.aload_n 0, 1) := by decide +kernel
theorem dX11_readSetupStatement_16 : decode cX11_readSetupStatement 16 = .ok (.ldc_w 274, 3) := by decide +kernel
theorem dX11_readSetupStatement_19 : decode cX11_readSetupStatement 19 = .ok (.invokevirtual 249, 3) := by decide +kernel
theorem dX11_readSetupStatement_22 : decode cX11_readSetupStatement 22 = .ok (.ifCond .eq 8, 3) := by decide +kernel
theorem dX11_readSetupStatement_25 : decode cX11_readSetupStatement 25 = .ok (.aload_n 0, 1) := by decide +kernel
theorem dX11_readSetupStatement_26 : decode cX11_readSetupStatement 26 = .ok (.invokevirtual 276, 3) := by decide +kernel
theorem dX11_readSetupStatement_29 : decode cX11_readSetupStatement 29 = .ok (.ireturn, 1) := by decide +kernel
theorem dX11_readSetupStatement_30 : decode cX11_readSetupStatement 30 = .ok (.aload_n 0, 1) := by decide +kernel
theorem dX11_readSetupStatement_31 : decode cX11_readSetupStatement 31 = .ok (.ldc_w 279, 3) := by decide +kernel
theorem dX11_readSetupStatement_34 : decode cX11_readSetupStatement 34 = .ok (.invokevirtual 249, 3) := by decide +kernel
theorem dX11_readSetupStatement_37 : decode cX11_readSetupStatement 37 = .ok (.ifCond .eq 8, 3) := by decide +kernel
theorem dX11_readSetupStatement_40 : decode cX11_readSetupStatement 40 = .ok (.aload_n 0, 1) := by decide +kernel
theorem dX11_readSetupStatement_41 : decode cX11_readSetupStatement 41 = .ok (.invokevirtual 281, 3) := by decide +kernel
theorem dX11_readSetupStatement_44 : decode cX11_readSetupStatement 44 = .ok (.ireturn, 1) := by decide +kernel
theorem dX11_readSetupStatement_45 : decode cX11_readSetupStatement 45 = .ok (.aload_n 0, 1) := by decide +kernel
theorem dX11_readSetupStatement_46 : decode cX11_readSetupStatement 46 = .ok (.ldc_w 284, 3) := by decide +kernel
theorem dX11_readSetupStatement_49 : decode cX11_readSetupStatement 49 = .ok (.invokevirtual 249, 3) := by decide +kernel
theorem dX11_readSetupStatement_52 : decode cX11_readSetupStatement 52 = .ok (.ifCond .eq 11, 3) := by decide +kernel
theorem dX11_readSetupStatement_55 : decode cX11_readSetupStatement 55 = .ok (.aload_n 0, 1) := by decide +kernel
theorem dX11_readSetupStatement_56 : decode cX11_readSetupStatement 56 = .ok (.iconst 4, 1) := by decide +kernel
theorem dX11_readSetupStatement_57 : decode cX11_readSetupStatement 57 = .ok (.bipush 9, 2) := by decide +kernel
theorem dX11_readSetupStatement_59 : decode cX11_readSetupStatement 59 = .ok (.invokevirtual 286, 3) := by decide +kernel
theorem dX11_readSetupStatement_62 : decode cX11_readSetupStatement 62 = .ok (.ireturn, 1) := by decide +kernel
theorem dX11_readSetupStatement_63 : decode cX11_readSetupStatement 63 = .ok (.aload_n 0, 1) := by decide +kernel
theorem dX11_readSetupStatement_64 : decode cX11_readSetupStatement 64 = .ok (.ldc_w 289, 3) := by decide +kernel
theorem dX11_readSetupStatement_67 : decode cX11_readSetupStatement 67 = .ok (.invokevirtual 249, 3) := by decide +kernel
theorem dX11_readSetupStatement_70 : decode cX11_readSetupStatement 70 = .ok (.ifCond .eq 13, 3) := by decide +kernel
theorem dX11_readSetupStatement_73 : decode cX11_readSetupStatement 73 = .ok (.aload_n 0, 1) := by decide +kernel
theorem dX11_readSetupStatement_74 : decode cX11_readSetupStatement 74 = .ok (.iconst 3, 1) := by decide +kernel
theorem dX11_readSetupStatement_75 : decode cX11_readSetupStatement 75 = .ok (.bipush 23, 2) := by decide +kernel
theorem dX11_readSetupStatement_77 : decode cX11_readSetupStatement 77 = .ok (.invokevirtual 286, 3) := by decide +kernel
theorem dX11_readSetupStatement_80 : decode cX11_readSetupStatement 80 = .ok (.goto 8, 3) := by decide +kernel
theorem dX11_readSetupStatement_83 : decode cX11_readSetupStatement 83 = .ok (.aload_n 0, 1) := by decide +kernel
theorem dX11_readSetupStatement_84 : decode cX11_readSetupStatement 84 = .ok (.iconst 1, 1) := by decide +kernel
theorem dX11_readSetupStatement_85 : decode cX11_readSetupStatement 85 = .ok (.invokevirtual 211, 3) := by decide +kernel
theorem dX11_readSetupStatement_88 : decode cX11_readSetupStatement 88 = .ok (.ireturn, 1) := by decide +kernel
theorem dX11_readText_0 : decode cX11_readText 0 = .ok (.aload_n 0, 1) := by decide +kernel
theorem dX11_readText_1 : decode cX11_readText 1 = .ok (.invokevirtual 44, 3) := by decide +kernel
theorem dX11_readText_4 : decode cX11_readText 4 = .ok (.aload_n 0, 1) := by decide +kernel
theorem dX11_readText_5 : decode cX11_readText 5 = .ok (.getfield 190, 3) := by decide +kernel
theorem dX11_readText_8 : decode cX11_readText 8 = .ok (.ifCond .eq 12, 3) := by decide +kernel
theorem dX11_readText_11 : decode cX11_readText 11 = .ok (.aload_n 0, 1) := by decide +kernel
theorem dX11_readText_12 : decode cX11_readText 12 = .ok (.invokevirtual 291, 3) := by decide +kernel
theorem dX11_readText_15 : decode cX11_readText 15 = .ok (.ifCond .ne (-11), 3) := by decide +kernel
theorem dX11_readText_18 : decode cX11_readText 18 = .ok (.iconst 0, 1) := by decide +kernel
theorem dX11_readText_19 : decode cX11_readText 19 = .ok (.ireturn, 1) := by decide +kernel
theorem dX11_readText_20 : decode cX11_readText 20 = .ok (.aload_n 0, 1) := by decide +kernel
theorem dX11_readText_21 : decode cX11_readText 21 = .ok (.getfield 7, 3) := by decide +kernel
theorem dX11_readText_24 : decode cX11_readText 24 = .ok (.iconst 0, 1) := by decide +kernel
theorem dX11_readText_25 : decode cX11_readText 25 = .ok (.iaload, 1) := by decide +kernel
theorem dX11_readText_26 : decode cX11_readText 26 = .ok (.ifCond .le 21, 3) := by decide +kernel
theorem dX11_readText_29 : decode cX11_readText 29 = .ok (.aload_n 0, 1) := by decide +kernel
theorem dX11_readText_30 : decode cX11_readText 30 = .ok (.getfield 7, 3) := by decide +kernel
theorem dX11_readText_33 : decode cX11_readText 33 = .ok (.iconst 1, 1) := by decide +kernel
theorem dX11_readText_34 : decode cX11_readText 34 = .ok (.iaload, 1) := by decide +kernel
theorem dX11_readText_35 : decode cX11_readText 35 = .ok (.ifCond .le 12, 3) := by decide +kernel
theorem dX11_readText_38 : decode cX11_readText 38 = .ok (.aload_n 0, 1) := by decide +kernel
theorem dX11_readText_39 : decode cX11_readText 39 = .ok (.getfield 7, 3) := by decide +kernel
theorem dX11_readText_42 : decode cX11_readText 42 = .ok (.iconst 2, 1) := by decide +kernel
theorem dX11_readText_43 : decode cX11_readText 43 = .ok (.iaload, 1) := by decide +kernel
theorem dX11_readText_44 : decode cX11_readText 44 = .ok (.ifCond .gt 12, 3) := by decide +kernel
theorem dX11_readText_47 : decode cX11_readText 47 = .ok (.aload_n 0, 1) := by decide +kernel
theorem dX11_readText_48 : decode cX11_readText 48 = .ok (.bipush 6, 2) := by decide +kernel
theorem dX11_readText_50 : decode cX11_readText 50 = .ok (.invokevirtual 211, 3) := by decide +kernel
theorem dX11_readText_53 : decode cX11_readText 53 = .ok (.ifCond .eq 7, 3) := by decide +kernel
theorem dX11_readText_56 : decode cX11_readText 56 = .ok (.iconst 1, 1) := by decide +kernel
theorem dX11_readText_57 : decode cX11_readText 57 = .ok (.goto 4, 3) := by decide +kernel
theorem dX11_readText_60 : decode cX11_readText 60 = .ok (.iconst 0, 1) := by decide +kernel
theorem dX11_readText_61 : decode cX11_readText 61 = .ok (.ireturn, 1) := by decide +kernel
theorem dX11_startsText_0 : decode cX11_startsText 0 = .ok (.aload_n 0, 1) := by decide +kernel
theorem dX11_startsText_1 : decode cX11_startsText 1 = .ok (.iconst 0, 1) := by decide +kernel
theorem dX11_startsText_2 : decode cX11_startsText 2 = .ok (.putfield 196, 3) := by decide +kernel
theorem dX11_startsText_5 : decode cX11_startsText 5 = .ok (.aload_n 0, 1) := by decide +kernel
theorem dX11_startsText_6 : decode cX11_startsText 6 = .ok (.iconst (-1), 1) := by decide +kernel
theorem dX11_startsText_7 : decode cX11_startsText 7 = .ok (.putfield 199, 3) := by decide +kernel
theorem dX11_startsText_10 : decode cX11_startsText 10 = .ok (.aload_n 0, 1) := by decide +kernel
theorem dX11_startsText_11 : decode cX11_startsText 11 = .ok (.iconst 0, 1) := by decide +kernel
theorem dX11_startsText_12 : decode cX11_startsText 12 = .ok (.putfield 294, 3) := by decide +kernel
theorem dX11_startsText_15 : decode cX11_startsText 15 = .ok (.aload_n 0, 1) := by decide +kernel
theorem dX11_startsText_16 : decode cX11_startsText 16 = .ok (.iconst 0, 1) := by decide +kernel
theorem dX11_startsText_17 : decode cX11_startsText 17 = .ok (.putfield 181, 3) := by decide +kernel
theorem dX11_startsText_20 : decode cX11_startsText 20 = .ok (.aload_n 0, 1) := by decide +kernel
theorem dX11_startsText_21 : decode cX11_startsText 21 = .ok (.invokevirtual 221, 3) := by decide +kernel
theorem dX11_startsText_24 : decode cX11_startsText 24 = .ok (.return_, 1) := by decide +kernel
theorem dX11_endsText_0 : decode cX11_endsText 0 = .ok (.aload_n 0, 1) := by decide +kernel
theorem dX11_endsText_1 : decode cX11_endsText 1 = .ok (.iconst 0, 1) := by decide +kernel
theorem dX11_endsText_2 : decode cX11_endsText 2 = .ok (.putfield 168, 3) := by decide +kernel
theorem dX11_endsText_5 : decode cX11_endsText 5 = .ok (.aload_n 0, 1) := by decide +kernel
theorem dX11_endsText_6 : decode cX11_endsText 6 = .ok (.aload_n 0, 1) := by decide +kernel
theorem dX11_endsText_7 : decode cX11_endsText 7 = .ok (.getfield 196, 3) := by decide +kernel
theorem dX11_endsText_10 : decode cX11_endsText 10 = .ok (.putfield 297, 3) := by decide +kernel
theorem dX11_endsText_13 : decode cX11_endsText 13 = .ok (.aload_n 0, 1) := by decide +kernel
theorem dX11_endsText_14 : decode cX11_endsText 14 = .ok (.aload_n 0, 1) := by decide +kernel
theorem dX11_endsText_15 : decode cX11_endsText 15 = .ok (.getfield 199, 3) := by decide +kernel
theorem dX11_endsText_18 : decode cX11_endsText 18 = .ok (.putfield 28, 3) := by decide +kernel
theorem dX11_endsText_21 : decode cX11_endsText 21 = .ok (.return_, 1) := by decide +kernel
theorem dX11_loadGranary_0 : decode cX11_loadGranary 0 = .ok (.aload_n 0, 1) := by decide +kernel
theorem dX11_loadGranary_1 : decode cX11_loadGranary 1 = .ok (.iconst 0, 1) := by decide +kernel
theorem dX11_loadGranary_2 : decode cX11_loadGranary 2 = .ok (.putfield 66, 3) := by decide +kernel
theorem dX11_loadGranary_5 : decode cX11_loadGranary 5 = .ok (.aload_n 0, 1) := by decide +kernel
theorem dX11_loadGranary_6 : decode cX11_loadGranary 6 = .ok (.getfield 7, 3) := by decide +kernel
theorem dX11_loadGranary_9 : decode cX11_loadGranary 9 = .ok (.iconst 0, 1) := by decide +kernel
theorem dX11_loadGranary_10 : decode cX11_loadGranary 10 = .ok (.aload_n 0, 1) := by decide +kernel
theorem dX11_loadGranary_11 : decode cX11_loadGranary 11 = .ok (.getfield 13, 3) := by decide +kernel
theorem dX11_loadGranary_14 : decode cX11_loadGranary 14 = .ok (.iconst 0, 1) := by decide +kernel
theorem dX11_loadGranary_15 : decode cX11_loadGranary 15 = .ok (.invokestatic 164, 3) := by decide +kernel
theorem dX11_loadGranary_18 : decode cX11_loadGranary 18 = .ok (.aload_n 0, 1) := by decide +kernel
theorem dX11_loadGranary_19 : decode cX11_loadGranary 19 = .ok (.invokevirtual 300, 3) := by decide +kernel
theorem dX11_loadGranary_22 : decode cX11_loadGranary 22 = .ok (.aload_n 0, 1) := by decide +kernel
theorem dX11_loadGranary_23 : decode cX11_loadGranary 23 = .ok (.invokevirtual 303, 3) := by decide +kernel
theorem dX11_loadGranary_26 : decode cX11_loadGranary 26 = .ok (.istore_n 1, 1) := by decide +kernel
theorem dX11_loadGranary_27 : decode cX11_loadGranary 27 = .ok (.aload_n 0, 1) := by decide +kernel
theorem dX11_loadGranary_28 : decode cX11_loadGranary 28 = .ok (.invokevirtual 306, 3) := by decide +kernel
theorem dX11_loadGranary_31 : decode cX11_loadGranary 31 = .ok (.iload_n 1, 1) := by decide +kernel
theorem dX11_loadGranary_32 : decode cX11_loadGranary 32 = .ok (.ifCond .ne 18, 3) := by decide +kernel
theorem dX11_loadGranary_35 : decode cX11_loadGranary 35 = .ok (.aload_n 0, 1) := by decide +kernel
theorem dX11_loadGranary_36 : decode cX11_loadGranary 36 = .ok (.getfield 13, 3) := by decide +kernel
theorem dX11_loadGranary_39 : decode cX11_loadGranary 39 = .ok (.iconst 0, 1) := by decide +kernel
theorem dX11_loadGranary_40 : decode cX11_loadGranary 40 = .ok (.aload_n 0, 1) := by decide +kernel
theorem dX11_loadGranary_41 : decode cX11_loadGranary 41 = .ok (.getfield 7, 3) := by decide +kernel
theorem dX11_loadGranary_44 : decode cX11_loadGranary 44 = .ok (.iconst 0, 1) := by decide +kernel
theorem dX11_loadGranary_45 : decode cX11_loadGranary 45 = .ok (.invokestatic 164, 3) := by decide +kernel
theorem dX11_loadGranary_48 : decode cX11_loadGranary 48 = .ok (.iconst (-1), 1) := by decide +kernel
theorem dX11_loadGranary_49 : decode cX11_loadGranary 49 = .ok (.ireturn, 1) := by decide +kernel
theorem dX11_loadGranary_50 : decode cX11_loadGranary 50 = .ok (.aload_n 0, 1) := by decide +kernel
theorem dX11_loadGranary_51 : decode cX11_loadGranary 51 = .ok (.invokevirtual 63, 3) := by decide +kernel
theorem dX11_loadGranary_54 : decode cX11_loadGranary 54 = .ok (.aload_n 0, 1) := by decide +kernel
theorem dX11_loadGranary_55 : decode cX11_loadGranary 55 = .ok (.iconst 0, 1) := by decide +kernel
theorem dX11_loadGranary_56 : decode cX11_loadGranary 56 = .ok (.putfield 161, 3) := by decide +kernel
theorem dX11_loadGranary_59 : decode cX11_loadGranary 59 = .ok (.aload_n 0, 1) := by decide +kernel
theorem dX11_loadGranary_60 : decode cX11_loadGranary 60 = .ok (.iconst 0, 1) := by decide +kernel
theorem dX11_loadGranary_61 : decode cX11_loadGranary 61 = .ok (.putfield 309, 3) := by decide +kernel
theorem dX11_loadGranary_64 : decode cX11_loadGranary 64 = .ok (.aload_n 0, 1) := by decide +kernel
theorem dX11_loadGranary_65 : decode cX11_loadGranary 65 = .ok (.getfield 7, 3) := by decide +kernel
theorem dX11_loadGranary_68 : decode cX11_loadGranary 68 = .ok (.iconst 0, 1) := by decide +kernel
theorem dX11_loadGranary_69 : decode cX11_loadGranary 69 = .ok (.iaload, 1) := by decide +kernel
theorem dX11_loadGranary_70 : decode cX11_loadGranary 70 = .ok (.ireturn, 1) := by decide +kernel
theorem dX11_scriptHere_0 : decode cX11_scriptHere 0 = .ok (.aload_n 0, 1) := by decide +kernel
theorem dX11_scriptHere_1 : decode cX11_scriptHere 1 = .ok (.ldc_w 313, 3) := by decide +kernel
theorem dX11_scriptHere_4 : decode cX11_scriptHere 4 = .ok (.invokevirtual 249, 3) := by decide +kernel
theorem dX11_scriptHere_7 : decode cX11_scriptHere 7 = .ok (.ifCond .eq 5, 3) := by decide +kernel
theorem dX11_scriptHere_10 : decode cX11_scriptHere 10 = .ok (.iconst 1, 1) := by decide +kernel
theorem dX11_scriptHere_11 : decode cX11_scriptHere 11 = .ok (.ireturn, 1) := by decide +kernel
theorem dX11_scriptHere_12 : decode cX11_scriptHere 12 = .ok (.aload_n 0, 1) := by decide +kernel
theorem dX11_scriptHere_13 : decode cX11_scriptHere 13 = .ok (.ldc_w 262, 3) := by decide +kernel
theorem dX11_scriptHere_16 : decode cX11_scriptHere 16 = .ok (.invokevirtual 249, 3) := by decide +kernel
theorem dX11_scriptHere_19 : decode cX11_scriptHere 19 = .ok (.ifCond .eq 5, 3) := by decide +kernel
theorem dX11_scriptHere_22 : decode cX11_scriptHere 22 = .ok (.iconst 2, 1) := by decide +kernel
theorem dX11_scriptHere_23 : decode cX11_scriptHere 23 = .ok (.ireturn, 1) := by decide +kernel
theorem dX11_scriptHere_24 : decode cX11_scriptHere 24 = .ok (.aload_n 0, 1) := by decide +kernel
theorem dX11_scriptHere_25 : decode cX11_scriptHere 25 = .ok (.ldc_w 264, 3) := by decide +kernel
theorem dX11_scriptHere_28 : decode cX11_scriptHere 28 = .ok (.invokevirtual 249, 3) := by decide +kernel
theorem dX11_scriptHere_31 : decode cX11_scriptHere 31 = .ok (.ifCond .eq 5, 3) := by decide +kernel
theorem dX11_scriptHere_34 : decode cX11_scriptHere 34 = .ok (.iconst 3, 1) := by decide +kernel
theorem dX11_scriptHere_35 : decode cX11_scriptHere 35 = .ok (.ireturn, 1) := by decide +kernel
theorem dX11_scriptHere_36 : decode cX11_scriptHere 36 = .ok (.aload_n 0, 1) := by decide +kernel
theorem dX11_scriptHere_37 : decode cX11_scriptHere 37 = .ok (.ldc_w 315, 3) := by decide +kernel
theorem dX11_scriptHere_40 : decode cX11_scriptHere 40 = .ok (.invokevirtual 249, 3) := by decide +kernel
theorem dX11_scriptHere_43 : decode cX11_scriptHere 43 = .ok (.ifCond .eq 5, 3) := by decide +kernel
theorem dX11_scriptHere_46 : decode cX11_scriptHere 46 = .ok (.iconst 4, 1) := by decide +kernel
theorem dX11_scriptHere_47 : decode cX11_scriptHere 47 = .ok (.ireturn, 1) := by decide +kernel
theorem dX11_scriptHere_48 : decode cX11_scriptHere 48 = .ok (.aload_n 0, 1) := by decide +kernel
theorem dX11_scriptHere_49 : decode cX11_scriptHere 49 = .ok (.ldc_w 317, 3) := by decide +kernel
theorem dX11_scriptHere_52 : decode cX11_scriptHere 52 = .ok (.invokevirtual 249, 3) := by decide +kernel
theorem dX11_scriptHere_55 : decode cX11_scriptHere 55 = .ok (.ifCond .eq 5, 3) := by decide +kernel
theorem dX11_scriptHere_58 : decode cX11_scriptHere 58 = .ok (.iconst 5, 1) := by decide +kernel
theorem dX11_scriptHere_59 : decode cX11_scriptHere 59 = .ok (.ireturn, 1) := by decide +kernel
theorem dX11_scriptHere_60 : decode cX11_scriptHere 60 = .ok (.aload_n 0, 1) := by decide +kernel
theorem dX11_scriptHere_61 : decode cX11_scriptHere 61 = .ok (.ldc_w 319, 3) := by decide +kernel
theorem dX11_scriptHere_64 : decode cX11_scriptHere 64 = .ok (.invokevirtual 249, 3) := by decide +kernel
theorem dX11_scriptHere_67 : decode cX11_scriptHere 67 = .ok (.ifCond .eq 6, 3) := by decide +kernel
theorem dX11_scriptHere_70 : decode cX11_scriptHere 70 = .ok (.bipush 6, 2) := by decide +kernel
theorem dX11_scriptHere_72 : decode cX11_scriptHere 72 = .ok (.ireturn, 1) := by decide +kernel
theorem dX11_scriptHere_73 : decode cX11_scriptHere 73 = .ok (.aload_n 0, 1) := by decide +kernel
theorem dX11_scriptHere_74 : decode cX11_scriptHere 74 = .ok (.ldc_w 284, 3) := by decide +kernel
theorem dX11_scriptHere_77 : decode cX11_scriptHere 77 = .ok (.invokevirtual 249, 3) := by decide +kernel
theorem dX11_scriptHere_80 : decode cX11_scriptHere 80 = .ok (.ifCond .eq 8, 3) := by decide +kernel
theorem dX11_scriptHere_83 : decode cX11_scriptHere 83 = .ok (.bipush 7, 2) := by decide +kernel
theorem dX11_scriptHere_85 : decode cX11_scriptHere 85 = .ok (.goto 4, 3) := by decide +kernel
theorem dX11_scriptHere_88 : decode cX11_scriptHere 88 = .ok (.iconst 0, 1) := by decide +kernel
theorem dX11_scriptHere_89 : decode cX11_scriptHere 89 = .ok (.ireturn, 1) := by decide +kernel
theorem dX11_takesRest_0 : decode cX11_takesRest 0 = .ok (.aload_n 0, 1) := by decide +kernel
theorem dX11_takesRest_1 : decode cX11_takesRest 1 = .ok (.invokevirtual 221, 3) := by decide +kernel
theorem dX11_takesRest_4 : decode cX11_takesRest 4 = .ok (.iload_n 1, 1) := by decide +kernel
theorem dX11_takesRest_5 : decode cX11_takesRest 5 = .ok (.tableswitch 116 1 6 #[39, 48, 48, 57, 85, 114], 39) := by decide +kernel
theorem dX11_takesRest_44 : decode cX11_takesRest 44 = .ok (.aload_n 0, 1) := by decide +kernel
theorem dX11_takesRest_45 : decode cX11_takesRest 45 = .ok (.iconst 0, 1) := by decide +kernel
theorem dX11_takesRest_46 : decode cX11_takesRest 46 = .ok (.iconst 1, 1) := by decide +kernel
theorem dX11_takesRest_47 : decode cX11_takesRest 47 = .ok (.bipush 99, 2) := by decide +kernel
theorem dX11_takesRest_49 : decode cX11_takesRest 49 = .ok (.invokevirtual 244, 3) := by decide +kernel
theorem dX11_takesRest_52 : decode cX11_takesRest 52 = .ok (.ireturn, 1) := by decide +kernel
theorem dX11_takesRest_53 : decode cX11_takesRest 53 = .ok (.aload_n 0, 1) := by decide +kernel
theorem dX11_takesRest_54 : decode cX11_takesRest 54 = .ok (.sipush 161, 3) := by decide +kernel
theorem dX11_takesRest_57 : decode cX11_takesRest 57 = .ok (.iconst 1, 1) := by decide +kernel
theorem dX11_takesRest_58 : decode cX11_takesRest 58 = .ok (.invokevirtual 266, 3) := by decide +kernel
theorem dX11_takesRest_61 : decode cX11_takesRest 61 = .ok (.ireturn, 1) := by decide +kernel
theorem dX11_takesRest_62 : decode cX11_takesRest 62 = .ok (.aload_n 0, 1) := by decide +kernel
theorem dX11_takesRest_63 : decode cX11_takesRest 63 = .ok (.sipush 161, 3) := by decide +kernel
theorem dX11_takesRest_66 : decode cX11_takesRest 66 = .ok (.iconst 1, 1) := by decide +kernel
theorem dX11_takesRest_67 : decode cX11_takesRest 67 = .ok (.invokevirtual 266, 3) := by decide +kernel
theorem dX11_takesRest_70 : decode cX11_takesRest 70 = .ok (.ifCond .eq 18, 3) := by decide +kernel
theorem dX11_takesRest_73 : decode cX11_takesRest 73 = .ok (.aload_n 0, 1) := by decide +kernel
theorem dX11_takesRest_74 : decode cX11_takesRest 74 = .ok (.iconst 1, 1) := by decide +kernel
theorem dX11_takesRest_75 : decode cX11_takesRest 75 = .ok (.iconst 1, 1) := by decide +kernel
theorem dX11_takesRest_76 : decode cX11_takesRest 76 = .ok (.bipush 99, 2) := by decide +kernel
theorem dX11_takesRest_78 : decode cX11_takesRest 78 = .ok (.invokevirtual 244, 3) := by decide +kernel
theorem dX11_takesRest_81 : decode cX11_takesRest 81 = .ok (.ifCond .eq 7, 3) := by decide +kernel
theorem dX11_takesRest_84 : decode cX11_takesRest 84 = .ok (.iconst 1, 1) := by decide +kernel
theorem dX11_takesRest_85 : decode cX11_takesRest 85 = .ok (.goto 4, 3) := by decide +kernel
theorem dX11_takesRest_88 : decode cX11_takesRest 88 = .ok (.iconst 0, 1) := by decide +kernel
theorem dX11_takesRest_89 : decode cX11_takesRest 89 = .ok (.ireturn, 1) := by decide +kernel
theorem dX11_takesRest_90 : decode cX11_takesRest 90 = .ok (.aload_n 0, 1) := by decide +kernel
theorem dX11_takesRest_91 : decode cX11_takesRest 91 = .ok (.sipush 161, 3) := by decide +kernel
theorem dX11_takesRest_94 : decode cX11_takesRest 94 = .ok (.iconst 1, 1) := by decide +kernel
theorem dX11_takesRest_95 : decode cX11_takesRest 95 = .ok (.invokevirtual 266, 3) := by decide +kernel
theorem dX11_takesRest_98 : decode cX11_takesRest 98 = .ok (.ifCond .eq 19, 3) := by decide +kernel
theorem dX11_takesRest_101 : decode cX11_takesRest 101 = .ok (.aload_n 0, 1) := by decide +kernel
theorem dX11_takesRest_102 : decode cX11_takesRest 102 = .ok (.iconst 1, 1) := by decide +kernel
theorem dX11_takesRest_103 : decode cX11_takesRest 103 = .ok (.iconst 1, 1) := by decide +kernel
theorem dX11_takesRest_104 : decode cX11_takesRest 104 = .ok (.sipush 999, 3) := by decide +kernel
theorem dX11_takesRest_107 : decode cX11_takesRest 107 = .ok (.invokevirtual 244, 3) := by decide +kernel
theorem dX11_takesRest_110 : decode cX11_takesRest 110 = .ok (.ifCond .eq 7, 3) := by decide +kernel
theorem dX11_takesRest_113 : decode cX11_takesRest 113 = .ok (.iconst 1, 1) := by decide +kernel
theorem dX11_takesRest_114 : decode cX11_takesRest 114 = .ok (.goto 4, 3) := by decide +kernel
theorem dX11_takesRest_117 : decode cX11_takesRest 117 = .ok (.iconst 0, 1) := by decide +kernel
theorem dX11_takesRest_118 : decode cX11_takesRest 118 = .ok (.ireturn, 1) := by decide +kernel
theorem dX11_takesRest_119 : decode cX11_takesRest 119 = .ok (.iconst 1, 1) := by decide +kernel
theorem dX11_takesRest_120 : decode cX11_takesRest 120 = .ok (.ireturn, 1) := by decide +kernel
theorem dX11_takesRest_121 : decode cX11_takesRest 121 = .ok (.aload_n 0, 1) := by decide +kernel
theorem dX11_takesRest_122 : decode cX11_takesRest 122 = .ok (.iconst 0, 1) := by decide +kernel
theorem dX11_takesRest_123 : decode cX11_takesRest 123 = .ok (.iconst 0, 1) := by decide +kernel
theorem dX11_takesRest_124 : decode cX11_takesRest 124 = .ok (.bipush 9, 2) := by decide +kernel
theorem dX11_takesRest_126 : decode cX11_takesRest 126 = .ok (.invokevirtual 244, 3) := by decide +kernel
theorem dX11_takesRest_129 : decode cX11_takesRest 129 = .ok (.ireturn, 1) := by decide +kernel
theorem dX11_readScriptStatement_0 : decode cX11_readScriptStatement 0 = .ok (.aload_n 0, 1) := by decide +kernel
theorem dX11_readScriptStatement_1 : decode cX11_readScriptStatement 1 = .ok (.invokevirtual 321, 3) := by decide +kernel
theorem dX11_readScriptStatement_4 : decode cX11_readScriptStatement 4 = .ok (.istore_n 1, 1) := by decide +kernel
theorem dX11_readScriptStatement_5 : decode cX11_readScriptStatement 5 = .ok (.iload_n 1, 1) := by decide +kernel
theorem dX11_readScriptStatement_6 : decode cX11_readScriptStatement 6 = .ok (.ifCond .ne 9, 3) := by decide +kernel
theorem dX11_readScriptStatement_9 : decode cX11_readScriptStatement 9 = .ok (.aload_n 0, 1) := by decide +kernel
theorem dX11_readScriptStatement_10 : decode cX11_readScriptStatement 10 = .ok (.iconst 1, 1) := by decide +kernel
theorem dX11_readScriptStatement_11 : decode cX11_readScriptStatement 11 = .ok (.invokevirtual 211, 3) := by decide +kernel
theorem dX11_readScriptStatement_14 : decode cX11_readScriptStatement 14 = .ok (.ireturn, 1) := by decide +kernel
theorem dX11_readScriptStatement_15 : decode cX11_readScriptStatement 15 = .ok (.aload_n 0, 1) := by decide +kernel
theorem dX11_readScriptStatement_16 : decode cX11_readScriptStatement 16 = .ok (.getfield 294, 3) := by decide +kernel
theorem dX11_readScriptStatement_19 : decode cX11_readScriptStatement 19 = .ok (.bipush 30, 2) := by decide +kernel
theorem dX11_readScriptStatement_21 : decode cX11_readScriptStatement 21 = .ok (.if_icmp .ne 9, 3) := by decide +kernel
theorem dX11_readScriptStatement_24 : decode cX11_readScriptStatement 24 = .ok (.aload_n 0, 1) := by decide +kernel
theorem dX11_readScriptStatement_25 : decode cX11_readScriptStatement 25 = .ok (.iconst 5, 1) := by decide +kernel
theorem dX11_readScriptStatement_26 : decode cX11_readScriptStatement 26 = .ok (.invokevirtual 211, 3) := by decide +kernel
theorem dX11_readScriptStatement_29 : decode cX11_readScriptStatement 29 = .ok (.ireturn, 1) := by decide +kernel
theorem dX11_readScriptStatement_30 : decode cX11_readScriptStatement 30 = .ok (.aload_n 0, 1) := by decide +kernel
theorem dX11_readScriptStatement_31 : decode cX11_readScriptStatement 31 = .ok (.iload_n 1, 1) := by decide +kernel
theorem dX11_readScriptStatement_32 : decode cX11_readScriptStatement 32 = .ok (.invokevirtual 324, 3) := by decide +kernel
theorem dX11_readScriptStatement_35 : decode cX11_readScriptStatement 35 = .ok (.ifCond .ne 5, 3) := by decide +kernel
theorem dX11_readScriptStatement_38 : decode cX11_readScriptStatement 38 = .ok (.iconst 0, 1) := by decide +kernel
theorem dX11_readScriptStatement_39 : decode cX11_readScriptStatement 39 = .ok (.ireturn, 1) := by decide +kernel
theorem dX11_readScriptStatement_40 : decode cX11_readScriptStatement 40 = .ok (.aload_n 0, 1) := by decide +kernel
theorem dX11_readScriptStatement_41 : decode cX11_readScriptStatement 41 = .ok (.getfield 35, 3) := by decide +kernel
theorem dX11_readScriptStatement_44 : decode cX11_readScriptStatement 44 = .ok (.aload_n 0, 1) := by decide +kernel
theorem dX11_readScriptStatement_45 : decode cX11_readScriptStatement 45 = .ok (.getfield 294, 3) := by decide +kernel
theorem dX11_readScriptStatement_48 : decode cX11_readScriptStatement 48 = .ok (.iload_n 1, 1) := by decide +kernel
theorem dX11_readScriptStatement_49 : decode cX11_readScriptStatement 49 = .ok (.iastore, 1) := by decide +kernel
theorem dX11_readScriptStatement_50 : decode cX11_readScriptStatement 50 = .ok (.aload_n 0, 1) := by decide +kernel
theorem dX11_readScriptStatement_51 : decode cX11_readScriptStatement 51 = .ok (.getfield 38, 3) := by decide +kernel
theorem dX11_readScriptStatement_54 : decode cX11_readScriptStatement 54 = .ok (.iconst 2, 1) := by decide +kernel
theorem dX11_readScriptStatement_55 : decode cX11_readScriptStatement 55 = .ok (.aload_n 0, 1) := by decide +kernel
theorem dX11_readScriptStatement_56 : decode cX11_readScriptStatement 56 = .ok (.getfield 294, 3) := by decide +kernel
theorem dX11_readScriptStatement_59 : decode cX11_readScriptStatement 59 = .ok (.imul, 1) := by decide +kernel
theorem dX11_readScriptStatement_60 : decode cX11_readScriptStatement 60 = .ok (.aload_n 0, 1) := by decide +kernel
theorem dX11_readScriptStatement_61 : decode cX11_readScriptStatement 61 = .ok (.getfield 32, 3) := by decide +kernel
theorem dX11_readScriptStatement_64 : decode cX11_readScriptStatement 64 = .ok (.iconst 0, 1) := by decide +kernel
theorem dX11_readScriptStatement_65 : decode cX11_readScriptStatement 65 = .ok (.iaload, 1) := by decide +kernel
theorem dX11_readScriptStatement_66 : decode cX11_readScriptStatement 66 = .ok (.iastore, 1) := by decide +kernel
theorem dX11_readScriptStatement_67 : decode cX11_readScriptStatement 67 = .ok (.aload_n 0, 1) := by decide +kernel
theorem dX11_readScriptStatement_68 : decode cX11_readScriptStatement 68 = .ok (.getfield 38, 3) := by decide +kernel
theorem dX11_readScriptStatement_71 : decode cX11_readScriptStatement 71 = .ok (.iconst 2, 1) := by decide +kernel
theorem dX11_readScriptStatement_72 : decode cX11_readScriptStatement 72 = .ok (.aload_n 0, 1) := by decide +kernel
theorem dX11_readScriptStatement_73 : decode cX11_readScriptStatement 73 = .ok (.getfield 294, 3) := by decide +kernel
theorem dX11_readScriptStatement_76 : decode cX11_readScriptStatement 76 = .ok (.imul, 1) := by decide +kernel
theorem dX11_readScriptStatement_77 : decode cX11_readScriptStatement 77 = .ok (.iconst 1, 1) := by decide +kernel
theorem dX11_readScriptStatement_78 : decode cX11_readScriptStatement 78 = .ok (.iadd, 1) := by decide +kernel
theorem dX11_readScriptStatement_79 : decode cX11_readScriptStatement 79 = .ok (.aload_n 0, 1) := by decide +kernel
theorem dX11_readScriptStatement_80 : decode cX11_readScriptStatement 80 = .ok (.getfield 32, 3) := by decide +kernel
theorem dX11_readScriptStatement_83 : decode cX11_readScriptStatement 83 = .ok (.iconst 1, 1) := by decide +kernel
theorem dX11_readScriptStatement_84 : decode cX11_readScriptStatement 84 = .ok (.iaload, 1) := by decide +kernel
theorem dX11_readScriptStatement_85 : decode cX11_readScriptStatement 85 = .ok (.iastore, 1) := by decide +kernel
theorem dX11_readScriptStatement_86 : decode cX11_readScriptStatement 86 = .ok (.aload_n 0, 1) := by decide +kernel
theorem dX11_readScriptStatement_87 : decode cX11_readScriptStatement 87 = .ok (.dup, 1) := by decide +kernel
theorem dX11_readScriptStatement_88 : decode cX11_readScriptStatement 88 = .ok (.getfield 294, 3) := by decide +kernel
theorem dX11_readScriptStatement_91 : decode cX11_readScriptStatement 91 = .ok (.iconst 1, 1) := by decide +kernel
theorem dX11_readScriptStatement_92 : decode cX11_readScriptStatement 92 = .ok (.iadd, 1) := by decide +kernel
theorem dX11_readScriptStatement_93 : decode cX11_readScriptStatement 93 = .ok (.putfield 294, 3) := by decide +kernel
theorem dX11_readScriptStatement_96 : decode cX11_readScriptStatement 96 = .ok (.aload_n 0, 1) := by decide +kernel
theorem dX11_readScriptStatement_97 : decode cX11_readScriptStatement 97 = .ok (.invokevirtual 259, 3) := by decide +kernel
theorem dX11_readScriptStatement_100 : decode cX11_readScriptStatement 100 = .ok (.ireturn, 1) := by decide +kernel
theorem dX11_does_0 : decode cX11_does 0 = .ok (.aload_n 0, 1) := by decide +kernel
theorem dX11_does_1 : decode cX11_does 1 = .ok (.getfield 38, 3) := by decide +kernel
theorem dX11_does_4 : decode cX11_does 4 = .ok (.iconst 2, 1) := by decide +kernel
theorem dX11_does_5 : decode cX11_does 5 = .ok (.iload_n 1, 1) := by decide +kernel
theorem dX11_does_6 : decode cX11_does 6 = .ok (.imul, 1) := by decide +kernel
theorem dX11_does_7 : decode cX11_does 7 = .ok (.iaload, 1) := by decide +kernel
theorem dX11_does_8 : decode cX11_does 8 = .ok (.istore_n 2, 1) := by decide +kernel
theorem dX11_does_9 : decode cX11_does 9 = .ok (.aload_n 0, 1) := by decide +kernel
theorem dX11_does_10 : decode cX11_does 10 = .ok (.getfield 38, 3) := by decide +kernel
theorem dX11_does_13 : decode cX11_does 13 = .ok (.iconst 2, 1) := by decide +kernel
theorem dX11_does_14 : decode cX11_does 14 = .ok (.iload_n 1, 1) := by decide +kernel
theorem dX11_does_15 : decode cX11_does 15 = .ok (.imul, 1) := by decide +kernel
theorem dX11_does_16 : decode cX11_does 16 = .ok (.iconst 1, 1) := by decide +kernel
theorem dX11_does_17 : decode cX11_does 17 = .ok (.iadd, 1) := by decide +kernel
theorem dX11_does_18 : decode cX11_does 18 = .ok (.iaload, 1) := by decide +kernel
theorem dX11_does_19 : decode cX11_does 19 = .ok (.istore_n 3, 1) := by decide +kernel
theorem dX11_does_20 : decode cX11_does 20 = .ok (.aload_n 0, 1) := by decide +kernel
theorem dX11_does_21 : decode cX11_does 21 = .ok (.getfield 35, 3) := by decide +kernel
theorem dX11_does_24 : decode cX11_does 24 = .ok (.iload_n 1, 1) := by decide +kernel
theorem dX11_does_25 : decode cX11_does 25 = .ok (.iaload, 1) := by decide +kernel
theorem dX11_does_26 : decode cX11_does 26 = .ok (.tableswitch 185 1 6 #[38, 66, 89, 112, 136, 160], 38) := by decide +kernel
theorem dX11_does_64 : decode cX11_does 64 = .ok (.aload_n 0, 1) := by decide +kernel
theorem dX11_does_65 : decode cX11_does 65 = .ok (.getfield 7, 3) := by decide +kernel
theorem dX11_does_68 : decode cX11_does 68 = .ok (.iconst 3, 1) := by decide +kernel
theorem dX11_does_69 : decode cX11_does 69 = .ok (.iaload, 1) := by decide +kernel
theorem dX11_does_70 : decode cX11_does 70 = .ok (.iload_n 2, 1) := by decide +kernel
theorem dX11_does_71 : decode cX11_does 71 = .ok (.iadd, 1) := by decide +kernel
theorem dX11_does_72 : decode cX11_does 72 = .ok (.sipush 9999, 3) := by decide +kernel
theorem dX11_does_75 : decode cX11_does 75 = .ok (.if_icmp .gt 15, 3) := by decide +kernel
theorem dX11_does_78 : decode cX11_does 78 = .ok (.aload_n 0, 1) := by decide +kernel
theorem dX11_does_79 : decode cX11_does 79 = .ok (.iload_n 2, 1) := by decide +kernel
theorem dX11_does_80 : decode cX11_does 80 = .ok (.invokevirtual 327, 3) := by decide +kernel
theorem dX11_does_83 : decode cX11_does 83 = .ok (.ifCond .lt 7, 3) := by decide +kernel
theorem dX11_does_86 : decode cX11_does 86 = .ok (.iconst 1, 1) := by decide +kernel
theorem dX11_does_87 : decode cX11_does 87 = .ok (.goto 4, 3) := by decide +kernel
theorem dX11_does_90 : decode cX11_does 90 = .ok (.iconst 0, 1) := by decide +kernel
theorem dX11_does_91 : decode cX11_does 91 = .ok (.ireturn, 1) := by decide +kernel
theorem dX11_does_92 : decode cX11_does 92 = .ok (.aload_n 0, 1) := by decide +kernel
theorem dX11_does_93 : decode cX11_does 93 = .ok (.iload_n 2, 1) := by decide +kernel
theorem dX11_does_94 : decode cX11_does 94 = .ok (.invokevirtual 102, 3) := by decide +kernel
theorem dX11_does_97 : decode cX11_does 97 = .ok (.ifCond .ne 16, 3) := by decide +kernel
theorem dX11_does_100 : decode cX11_does 100 = .ok (.aload_n 0, 1) := by decide +kernel
theorem dX11_does_101 : decode cX11_does 101 = .ok (.iload_n 2, 1) := by decide +kernel
theorem dX11_does_102 : decode cX11_does 102 = .ok (.iconst 1, 1) := by decide +kernel
theorem dX11_does_103 : decode cX11_does 103 = .ok (.invokevirtual 330, 3) := by decide +kernel
theorem dX11_does_106 : decode cX11_does 106 = .ok (.ifCond .lt 7, 3) := by decide +kernel
theorem dX11_does_109 : decode cX11_does 109 = .ok (.iconst 1, 1) := by decide +kernel
theorem dX11_does_110 : decode cX11_does 110 = .ok (.goto 4, 3) := by decide +kernel
theorem dX11_does_113 : decode cX11_does 113 = .ok (.iconst 0, 1) := by decide +kernel
theorem dX11_does_114 : decode cX11_does 114 = .ok (.ireturn, 1) := by decide +kernel
theorem dX11_does_115 : decode cX11_does 115 = .ok (.aload_n 0, 1) := by decide +kernel
theorem dX11_does_116 : decode cX11_does 116 = .ok (.iload_n 2, 1) := by decide +kernel
theorem dX11_does_117 : decode cX11_does 117 = .ok (.invokevirtual 102, 3) := by decide +kernel
theorem dX11_does_120 : decode cX11_does 120 = .ok (.ifCond .eq 16, 3) := by decide +kernel
theorem dX11_does_123 : decode cX11_does 123 = .ok (.aload_n 0, 1) := by decide +kernel
theorem dX11_does_124 : decode cX11_does 124 = .ok (.iload_n 2, 1) := by decide +kernel
theorem dX11_does_125 : decode cX11_does 125 = .ok (.iconst 0, 1) := by decide +kernel
theorem dX11_does_126 : decode cX11_does 126 = .ok (.invokevirtual 330, 3) := by decide +kernel
theorem dX11_does_129 : decode cX11_does 129 = .ok (.ifCond .lt 7, 3) := by decide +kernel
theorem dX11_does_132 : decode cX11_does 132 = .ok (.iconst 1, 1) := by decide +kernel
theorem dX11_does_133 : decode cX11_does 133 = .ok (.goto 4, 3) := by decide +kernel
theorem dX11_does_136 : decode cX11_does 136 = .ok (.iconst 0, 1) := by decide +kernel
theorem dX11_does_137 : decode cX11_does 137 = .ok (.ireturn, 1) := by decide +kernel
theorem dX11_does_138 : decode cX11_does 138 = .ok (.aload_n 0, 1) := by decide +kernel
theorem dX11_does_139 : decode cX11_does 139 = .ok (.iload_n 2, 1) := by decide +kernel
theorem dX11_does_140 : decode cX11_does 140 = .ok (.iload_n 3, 1) := by decide +kernel
theorem dX11_does_141 : decode cX11_does 141 = .ok (.invokevirtual 333, 3) := by decide +kernel
theorem dX11_does_144 : decode cX11_does 144 = .ok (.ifCond .eq 16, 3) := by decide +kernel
theorem dX11_does_147 : decode cX11_does 147 = .ok (.aload_n 0, 1) := by decide +kernel
theorem dX11_does_148 : decode cX11_does 148 = .ok (.iload_n 2, 1) := by decide +kernel
theorem dX11_does_149 : decode cX11_does 149 = .ok (.iload_n 3, 1) := by decide +kernel
theorem dX11_does_150 : decode cX11_does 150 = .ok (.invokevirtual 336, 3) := by decide +kernel
theorem dX11_does_153 : decode cX11_does 153 = .ok (.ifCond .lt 7, 3) := by decide +kernel
theorem dX11_does_156 : decode cX11_does 156 = .ok (.iconst 1, 1) := by decide +kernel
theorem dX11_does_157 : decode cX11_does 157 = .ok (.goto 4, 3) := by decide +kernel
theorem dX11_does_160 : decode cX11_does 160 = .ok (.iconst 0, 1) := by decide +kernel
theorem dX11_does_161 : decode cX11_does 161 = .ok (.ireturn, 1) := by decide +kernel
theorem dX11_does_162 : decode cX11_does 162 = .ok (.aload_n 0, 1) := by decide +kernel
theorem dX11_does_163 : decode cX11_does 163 = .ok (.iload_n 2, 1) := by decide +kernel
theorem dX11_does_164 : decode cX11_does 164 = .ok (.iload_n 3, 1) := by decide +kernel
theorem dX11_does_165 : decode cX11_does 165 = .ok (.invokevirtual 339, 3) := by decide +kernel
theorem dX11_does_168 : decode cX11_does 168 = .ok (.ifCond .eq 16, 3) := by decide +kernel
theorem dX11_does_171 : decode cX11_does 171 = .ok (.aload_n 0, 1) := by decide +kernel
theorem dX11_does_172 : decode cX11_does 172 = .ok (.iload_n 2, 1) := by decide +kernel
theorem dX11_does_173 : decode cX11_does 173 = .ok (.iload_n 3, 1) := by decide +kernel
theorem dX11_does_174 : decode cX11_does 174 = .ok (.invokevirtual 342, 3) := by decide +kernel
theorem dX11_does_177 : decode cX11_does 177 = .ok (.ifCond .lt 7, 3) := by decide +kernel
theorem dX11_does_180 : decode cX11_does 180 = .ok (.iconst 1, 1) := by decide +kernel
theorem dX11_does_181 : decode cX11_does 181 = .ok (.goto 4, 3) := by decide +kernel
theorem dX11_does_184 : decode cX11_does 184 = .ok (.iconst 0, 1) := by decide +kernel
theorem dX11_does_185 : decode cX11_does 185 = .ok (.ireturn, 1) := by decide +kernel
theorem dX11_does_186 : decode cX11_does 186 = .ok (.aload_n 0, 1) := by decide +kernel
theorem dX11_does_187 : decode cX11_does 187 = .ok (.getfield 7, 3) := by decide +kernel
theorem dX11_does_190 : decode cX11_does 190 = .ok (.iconst 5, 1) := by decide +kernel
theorem dX11_does_191 : decode cX11_does 191 = .ok (.iaload, 1) := by decide +kernel
theorem dX11_does_192 : decode cX11_does 192 = .ok (.iconst (-1), 1) := by decide +kernel
theorem dX11_does_193 : decode cX11_does 193 = .ok (.if_icmp .eq 16, 3) := by decide +kernel
theorem dX11_does_196 : decode cX11_does 196 = .ok (.aload_n 0, 1) := by decide +kernel
theorem dX11_does_197 : decode cX11_does 197 = .ok (.iconst 5, 1) := by decide +kernel
theorem dX11_does_198 : decode cX11_does 198 = .ok (.iconst (-1), 1) := by decide +kernel
theorem dX11_does_199 : decode cX11_does 199 = .ok (.invokevirtual 345, 3) := by decide +kernel
theorem dX11_does_202 : decode cX11_does 202 = .ok (.ifCond .lt 7, 3) := by decide +kernel
theorem dX11_does_205 : decode cX11_does 205 = .ok (.iconst 1, 1) := by decide +kernel
theorem dX11_does_206 : decode cX11_does 206 = .ok (.goto 4, 3) := by decide +kernel
theorem dX11_does_209 : decode cX11_does 209 = .ok (.iconst 0, 1) := by decide +kernel
theorem dX11_does_210 : decode cX11_does 210 = .ok (.ireturn, 1) := by decide +kernel
theorem dX11_does_211 : decode cX11_does 211 = .ok (.aload_n 0, 1) := by decide +kernel
theorem dX11_does_212 : decode cX11_does 212 = .ok (.iconst 4, 1) := by decide +kernel
theorem dX11_does_213 : decode cX11_does 213 = .ok (.iload_n 2, 1) := by decide +kernel
theorem dX11_does_214 : decode cX11_does 214 = .ok (.invokevirtual 345, 3) := by decide +kernel
theorem dX11_does_217 : decode cX11_does 217 = .ok (.ifCond .lt 7, 3) := by decide +kernel
theorem dX11_does_220 : decode cX11_does 220 = .ok (.iconst 1, 1) := by decide +kernel
theorem dX11_does_221 : decode cX11_does 221 = .ok (.goto 4, 3) := by decide +kernel
theorem dX11_does_224 : decode cX11_does 224 = .ok (.iconst 0, 1) := by decide +kernel
theorem dX11_does_225 : decode cX11_does 225 = .ok (.ireturn, 1) := by decide +kernel
theorem dX11_runScript_0 : decode cX11_runScript 0 = .ok (.aload_n 0, 1) := by decide +kernel
theorem dX11_runScript_1 : decode cX11_runScript 1 = .ok (.iconst 0, 1) := by decide +kernel
theorem dX11_runScript_2 : decode cX11_runScript 2 = .ok (.putfield 66, 3) := by decide +kernel
theorem dX11_runScript_5 : decode cX11_runScript 5 = .ok (.aload_n 0, 1) := by decide +kernel
theorem dX11_runScript_6 : decode cX11_runScript 6 = .ok (.invokevirtual 300, 3) := by decide +kernel
theorem dX11_runScript_9 : decode cX11_runScript 9 = .ok (.iconst 1, 1) := by decide +kernel
theorem dX11_runScript_10 : decode cX11_runScript 10 = .ok (.istore_n 1, 1) := by decide +kernel
theorem dX11_runScript_11 : decode cX11_runScript 11 = .ok (.iload_n 1, 1) := by decide +kernel
theorem dX11_runScript_12 : decode cX11_runScript 12 = .ok (.ifCond .eq 18, 3) := by decide +kernel
theorem dX11_runScript_15 : decode cX11_runScript 15 = .ok (.aload_n 0, 1) := by decide +kernel
theorem dX11_runScript_16 : decode cX11_runScript 16 = .ok (.getfield 190, 3) := by decide +kernel
theorem dX11_runScript_19 : decode cX11_runScript 19 = .ok (.ifCond .eq 11, 3) := by decide +kernel
theorem dX11_runScript_22 : decode cX11_runScript 22 = .ok (.aload_n 0, 1) := by decide +kernel
theorem dX11_runScript_23 : decode cX11_runScript 23 = .ok (.invokevirtual 348, 3) := by decide +kernel
theorem dX11_runScript_26 : decode cX11_runScript 26 = .ok (.istore_n 1, 1) := by decide +kernel
theorem dX11_runScript_27 : decode cX11_runScript 27 = .ok (.goto (-16), 3) := by decide +kernel
theorem dX11_runScript_30 : decode cX11_runScript 30 = .ok (.aload_n 0, 1) := by decide +kernel
theorem dX11_runScript_31 : decode cX11_runScript 31 = .ok (.invokevirtual 306, 3) := by decide +kernel
theorem dX11_runScript_34 : decode cX11_runScript 34 = .ok (.iload_n 1, 1) := by decide +kernel
theorem dX11_runScript_35 : decode cX11_runScript 35 = .ok (.ifCond .ne 5, 3) := by decide +kernel
theorem dX11_runScript_38 : decode cX11_runScript 38 = .ok (.iconst (-1), 1) := by decide +kernel
theorem dX11_runScript_39 : decode cX11_runScript 39 = .ok (.ireturn, 1) := by decide +kernel
theorem dX11_runScript_40 : decode cX11_runScript 40 = .ok (.aload_n 0, 1) := by decide +kernel
theorem dX11_runScript_41 : decode cX11_runScript 41 = .ok (.invokevirtual 351, 3) := by decide +kernel
theorem dX11_runScript_44 : decode cX11_runScript 44 = .ok (.iconst 0, 1) := by decide +kernel
theorem dX11_runScript_45 : decode cX11_runScript 45 = .ok (.istore_n 2, 1) := by decide +kernel
theorem dX11_runScript_46 : decode cX11_runScript 46 = .ok (.iload_n 2, 1) := by decide +kernel
theorem dX11_runScript_47 : decode cX11_runScript 47 = .ok (.aload_n 0, 1) := by decide +kernel
theorem dX11_runScript_48 : decode cX11_runScript 48 = .ok (.getfield 294, 3) := by decide +kernel
theorem dX11_runScript_51 : decode cX11_runScript 51 = .ok (.if_icmp .ge 17, 3) := by decide +kernel
theorem dX11_runScript_54 : decode cX11_runScript 54 = .ok (.aload_n 0, 1) := by decide +kernel
theorem dX11_runScript_55 : decode cX11_runScript 55 = .ok (.iload_n 2, 1) := by decide +kernel
theorem dX11_runScript_56 : decode cX11_runScript 56 = .ok (.invokevirtual 354, 3) := by decide +kernel
theorem dX11_runScript_59 : decode cX11_runScript 59 = .ok (.ifCond .eq 9, 3) := by decide +kernel
theorem dX11_runScript_62 : decode cX11_runScript 62 = .ok (.iinc 2 1, 3) := by decide +kernel
theorem dX11_runScript_65 : decode cX11_runScript 65 = .ok (.goto (-19), 3) := by decide +kernel
theorem dX11_runScript_68 : decode cX11_runScript 68 = .ok (.iload_n 2, 1) := by decide +kernel
theorem dX11_runScript_69 : decode cX11_runScript 69 = .ok (.ireturn, 1) := by decide +kernel
theorem dX11_errorCode_0 : decode cX11_errorCode 0 = .ok (.aload_n 0, 1) := by decide +kernel
theorem dX11_errorCode_1 : decode cX11_errorCode 1 = .ok (.iconst 0, 1) := by decide +kernel
theorem dX11_errorCode_2 : decode cX11_errorCode 2 = .ok (.putfield 66, 3) := by decide +kernel
theorem dX11_errorCode_5 : decode cX11_errorCode 5 = .ok (.aload_n 0, 1) := by decide +kernel
theorem dX11_errorCode_6 : decode cX11_errorCode 6 = .ok (.getfield 297, 3) := by decide +kernel
theorem dX11_errorCode_9 : decode cX11_errorCode 9 = .ok (.ireturn, 1) := by decide +kernel
theorem dX11_errorOffset_0 : decode cX11_errorOffset 0 = .ok (.aload_n 0, 1) := by decide +kernel
theorem dX11_errorOffset_1 : decode cX11_errorOffset 1 = .ok (.iconst 0, 1) := by decide +kernel
theorem dX11_errorOffset_2 : decode cX11_errorOffset 2 = .ok (.putfield 66, 3) := by decide +kernel
theorem dX11_errorOffset_5 : decode cX11_errorOffset 5 = .ok (.aload_n 0, 1) := by decide +kernel
theorem dX11_errorOffset_6 : decode cX11_errorOffset 6 = .ok (.getfield 28, 3) := by decide +kernel
theorem dX11_errorOffset_9 : decode cX11_errorOffset 9 = .ok (.ireturn, 1) := by decide +kernel
theorem dX11_clock_0 : decode cX11_clock 0 = .ok (.aload_n 0, 1) := by decide +kernel
theorem dX11_clock_1 : decode cX11_clock 1 = .ok (.iconst 0, 1) := by decide +kernel
theorem dX11_clock_2 : decode cX11_clock 2 = .ok (.putfield 66, 3) := by decide +kernel
theorem dX11_clock_5 : decode cX11_clock 5 = .ok (.aload_n 0, 1) := by decide +kernel
theorem dX11_clock_6 : decode cX11_clock 6 = .ok (.getfield 7, 3) := by decide +kernel
theorem dX11_clock_9 : decode cX11_clock 9 = .ok (.iconst 3, 1) := by decide +kernel
theorem dX11_clock_10 : decode cX11_clock 10 = .ok (.iaload, 1) := by decide +kernel
theorem dX11_clock_11 : decode cX11_clock 11 = .ok (.ireturn, 1) := by decide +kernel
theorem dX11_catCount_0 : decode cX11_catCount 0 = .ok (.aload_n 0, 1) := by decide +kernel
theorem dX11_catCount_1 : decode cX11_catCount 1 = .ok (.iconst 0, 1) := by decide +kernel
theorem dX11_catCount_2 : decode cX11_catCount 2 = .ok (.putfield 66, 3) := by decide +kernel
theorem dX11_catCount_5 : decode cX11_catCount 5 = .ok (.aload_n 0, 1) := by decide +kernel
theorem dX11_catCount_6 : decode cX11_catCount 6 = .ok (.getfield 7, 3) := by decide +kernel
theorem dX11_catCount_9 : decode cX11_catCount 9 = .ok (.iconst 0, 1) := by decide +kernel
theorem dX11_catCount_10 : decode cX11_catCount 10 = .ok (.iaload, 1) := by decide +kernel
theorem dX11_catCount_11 : decode cX11_catCount 11 = .ok (.ireturn, 1) := by decide +kernel
theorem dX11_sackCount_0 : decode cX11_sackCount 0 = .ok (.aload_n 0, 1) := by decide +kernel
theorem dX11_sackCount_1 : decode cX11_sackCount 1 = .ok (.iconst 0, 1) := by decide +kernel
theorem dX11_sackCount_2 : decode cX11_sackCount 2 = .ok (.putfield 66, 3) := by decide +kernel
theorem dX11_sackCount_5 : decode cX11_sackCount 5 = .ok (.aload_n 0, 1) := by decide +kernel
theorem dX11_sackCount_6 : decode cX11_sackCount 6 = .ok (.getfield 7, 3) := by decide +kernel
theorem dX11_sackCount_9 : decode cX11_sackCount 9 = .ok (.iconst 1, 1) := by decide +kernel
theorem dX11_sackCount_10 : decode cX11_sackCount 10 = .ok (.iaload, 1) := by decide +kernel
theorem dX11_sackCount_11 : decode cX11_sackCount 11 = .ok (.ireturn, 1) := by decide +kernel
theorem dX11_shiftCount_0 : decode cX11_shiftCount 0 = .ok (.aload_n 0, 1) := by decide +kernel
theorem dX11_shiftCount_1 : decode cX11_shiftCount 1 = .ok (.iconst 0, 1) := by decide +kernel
theorem dX11_shiftCount_2 : decode cX11_shiftCount 2 = .ok (.putfield 66, 3) := by decide +kernel
theorem dX11_shiftCount_5 : decode cX11_shiftCount 5 = .ok (.aload_n 0, 1) := by decide +kernel
theorem dX11_shiftCount_6 : decode cX11_shiftCount 6 = .ok (.getfield 7, 3) := by decide +kernel
theorem dX11_shiftCount_9 : decode cX11_shiftCount 9 = .ok (.iconst 2, 1) := by decide +kernel
theorem dX11_shiftCount_10 : decode cX11_shiftCount 10 = .ok (.iaload, 1) := by decide +kernel
theorem dX11_shiftCount_11 : decode cX11_shiftCount 11 = .ok (.ireturn, 1) := by decide +kernel
theorem dX11_swornCat_0 : decode cX11_swornCat 0 = .ok (.aload_n 0, 1) := by decide +kernel
theorem dX11_swornCat_1 : decode cX11_swornCat 1 = .ok (.iconst 0, 1) := by decide +kernel
theorem dX11_swornCat_2 : decode cX11_swornCat 2 = .ok (.putfield 66, 3) := by decide +kernel
theorem dX11_swornCat_5 : decode cX11_swornCat 5 = .ok (.aload_n 0, 1) := by decide +kernel
theorem dX11_swornCat_6 : decode cX11_swornCat 6 = .ok (.getfield 7, 3) := by decide +kernel
theorem dX11_swornCat_9 : decode cX11_swornCat 9 = .ok (.iconst 5, 1) := by decide +kernel
theorem dX11_swornCat_10 : decode cX11_swornCat 10 = .ok (.iaload, 1) := by decide +kernel
theorem dX11_swornCat_11 : decode cX11_swornCat 11 = .ok (.ireturn, 1) := by decide +kernel
theorem dX11_currentShift_0 : decode cX11_currentShift 0 = .ok (.aload_n 0, 1) := by decide +kernel
theorem dX11_currentShift_1 : decode cX11_currentShift 1 = .ok (.iconst 0, 1) := by decide +kernel
theorem dX11_currentShift_2 : decode cX11_currentShift 2 = .ok (.putfield 66, 3) := by decide +kernel
theorem dX11_currentShift_5 : decode cX11_currentShift 5 = .ok (.aload_n 0, 1) := by decide +kernel
theorem dX11_currentShift_6 : decode cX11_currentShift 6 = .ok (.getfield 7, 3) := by decide +kernel
theorem dX11_currentShift_9 : decode cX11_currentShift 9 = .ok (.bipush 6, 2) := by decide +kernel
theorem dX11_currentShift_11 : decode cX11_currentShift 11 = .ok (.iaload, 1) := by decide +kernel
theorem dX11_currentShift_12 : decode cX11_currentShift 12 = .ok (.ireturn, 1) := by decide +kernel
theorem dX11_hoursLeft_0 : decode cX11_hoursLeft 0 = .ok (.aload_n 0, 1) := by decide +kernel
theorem dX11_hoursLeft_1 : decode cX11_hoursLeft 1 = .ok (.iconst 0, 1) := by decide +kernel
theorem dX11_hoursLeft_2 : decode cX11_hoursLeft 2 = .ok (.putfield 66, 3) := by decide +kernel
theorem dX11_hoursLeft_5 : decode cX11_hoursLeft 5 = .ok (.aload_n 0, 1) := by decide +kernel
theorem dX11_hoursLeft_6 : decode cX11_hoursLeft 6 = .ok (.getfield 7, 3) := by decide +kernel
theorem dX11_hoursLeft_9 : decode cX11_hoursLeft 9 = .ok (.bipush 7, 2) := by decide +kernel
theorem dX11_hoursLeft_11 : decode cX11_hoursLeft 11 = .ok (.iaload, 1) := by decide +kernel
theorem dX11_hoursLeft_12 : decode cX11_hoursLeft 12 = .ok (.ireturn, 1) := by decide +kernel
theorem dX11_eventCount_0 : decode cX11_eventCount 0 = .ok (.aload_n 0, 1) := by decide +kernel
theorem dX11_eventCount_1 : decode cX11_eventCount 1 = .ok (.iconst 0, 1) := by decide +kernel
theorem dX11_eventCount_2 : decode cX11_eventCount 2 = .ok (.putfield 66, 3) := by decide +kernel
theorem dX11_eventCount_5 : decode cX11_eventCount 5 = .ok (.aload_n 0, 1) := by decide +kernel
theorem dX11_eventCount_6 : decode cX11_eventCount 6 = .ok (.getfield 7, 3) := by decide +kernel
theorem dX11_eventCount_9 : decode cX11_eventCount 9 = .ok (.bipush 16, 2) := by decide +kernel
theorem dX11_eventCount_11 : decode cX11_eventCount 11 = .ok (.iaload, 1) := by decide +kernel
theorem dX11_eventCount_12 : decode cX11_eventCount 12 = .ok (.ireturn, 1) := by decide +kernel
theorem dX11_milk_0 : decode cX11_milk 0 = .ok (.aload_n 0, 1) := by decide +kernel
theorem dX11_milk_1 : decode cX11_milk 1 = .ok (.iconst 0, 1) := by decide +kernel
theorem dX11_milk_2 : decode cX11_milk 2 = .ok (.putfield 66, 3) := by decide +kernel
theorem dX11_milk_5 : decode cX11_milk 5 = .ok (.aload_n 0, 1) := by decide +kernel
theorem dX11_milk_6 : decode cX11_milk 6 = .ok (.getfield 7, 3) := by decide +kernel
theorem dX11_milk_9 : decode cX11_milk 9 = .ok (.iconst 4, 1) := by decide +kernel
theorem dX11_milk_10 : decode cX11_milk 10 = .ok (.iaload, 1) := by decide +kernel
theorem dX11_milk_11 : decode cX11_milk 11 = .ok (.ireturn, 1) := by decide +kernel
theorem dX11_totalCaught_0 : decode cX11_totalCaught 0 = .ok (.aload_n 0, 1) := by decide +kernel
theorem dX11_totalCaught_1 : decode cX11_totalCaught 1 = .ok (.iconst 0, 1) := by decide +kernel
theorem dX11_totalCaught_2 : decode cX11_totalCaught 2 = .ok (.putfield 66, 3) := by decide +kernel
theorem dX11_totalCaught_5 : decode cX11_totalCaught 5 = .ok (.aload_n 0, 1) := by decide +kernel
theorem dX11_totalCaught_6 : decode cX11_totalCaught 6 = .ok (.getfield 7, 3) := by decide +kernel
theorem dX11_totalCaught_9 : decode cX11_totalCaught 9 = .ok (.bipush 8, 2) := by decide +kernel
theorem dX11_totalCaught_11 : decode cX11_totalCaught 11 = .ok (.iaload, 1) := by decide +kernel
theorem dX11_totalCaught_12 : decode cX11_totalCaught 12 = .ok (.ireturn, 1) := by decide +kernel
theorem dX11_totalEaten_0 : decode cX11_totalEaten 0 = .ok (.aload_n 0, 1) := by decide +kernel
theorem dX11_totalEaten_1 : decode cX11_totalEaten 1 = .ok (.iconst 0, 1) := by decide +kernel
theorem dX11_totalEaten_2 : decode cX11_totalEaten 2 = .ok (.putfield 66, 3) := by decide +kernel
theorem dX11_totalEaten_5 : decode cX11_totalEaten 5 = .ok (.aload_n 0, 1) := by decide +kernel
theorem dX11_totalEaten_6 : decode cX11_totalEaten 6 = .ok (.getfield 7, 3) := by decide +kernel
theorem dX11_totalEaten_9 : decode cX11_totalEaten 9 = .ok (.bipush 9, 2) := by decide +kernel
theorem dX11_totalEaten_11 : decode cX11_totalEaten 11 = .ok (.iaload, 1) := by decide +kernel
theorem dX11_totalEaten_12 : decode cX11_totalEaten 12 = .ok (.ireturn, 1) := by decide +kernel
theorem dX11_totalBorn_0 : decode cX11_totalBorn 0 = .ok (.aload_n 0, 1) := by decide +kernel
theorem dX11_totalBorn_1 : decode cX11_totalBorn 1 = .ok (.iconst 0, 1) := by decide +kernel
theorem dX11_totalBorn_2 : decode cX11_totalBorn 2 = .ok (.putfield 66, 3) := by decide +kernel
theorem dX11_totalBorn_5 : decode cX11_totalBorn 5 = .ok (.aload_n 0, 1) := by decide +kernel
theorem dX11_totalBorn_6 : decode cX11_totalBorn 6 = .ok (.getfield 7, 3) := by decide +kernel
theorem dX11_totalBorn_9 : decode cX11_totalBorn 9 = .ok (.bipush 10, 2) := by decide +kernel
theorem dX11_totalBorn_11 : decode cX11_totalBorn 11 = .ok (.iaload, 1) := by decide +kernel
theorem dX11_totalBorn_12 : decode cX11_totalBorn 12 = .ok (.ireturn, 1) := by decide +kernel
theorem dX11_totalStarved_0 : decode cX11_totalStarved 0 = .ok (.aload_n 0, 1) := by decide +kernel
theorem dX11_totalStarved_1 : decode cX11_totalStarved 1 = .ok (.iconst 0, 1) := by decide +kernel
theorem dX11_totalStarved_2 : decode cX11_totalStarved 2 = .ok (.putfield 66, 3) := by decide +kernel
theorem dX11_totalStarved_5 : decode cX11_totalStarved 5 = .ok (.aload_n 0, 1) := by decide +kernel
theorem dX11_totalStarved_6 : decode cX11_totalStarved 6 = .ok (.getfield 7, 3) := by decide +kernel
theorem dX11_totalStarved_9 : decode cX11_totalStarved 9 = .ok (.bipush 11, 2) := by decide +kernel
theorem dX11_totalStarved_11 : decode cX11_totalStarved 11 = .ok (.iaload, 1) := by decide +kernel
theorem dX11_totalStarved_12 : decode cX11_totalStarved 12 = .ok (.ireturn, 1) := by decide +kernel
theorem dX11_totalOaths_0 : decode cX11_totalOaths 0 = .ok (.aload_n 0, 1) := by decide +kernel
theorem dX11_totalOaths_1 : decode cX11_totalOaths 1 = .ok (.iconst 0, 1) := by decide +kernel
theorem dX11_totalOaths_2 : decode cX11_totalOaths 2 = .ok (.putfield 66, 3) := by decide +kernel
theorem dX11_totalOaths_5 : decode cX11_totalOaths 5 = .ok (.aload_n 0, 1) := by decide +kernel
theorem dX11_totalOaths_6 : decode cX11_totalOaths 6 = .ok (.getfield 7, 3) := by decide +kernel
theorem dX11_totalOaths_9 : decode cX11_totalOaths 9 = .ok (.bipush 12, 2) := by decide +kernel
theorem dX11_totalOaths_11 : decode cX11_totalOaths 11 = .ok (.iaload, 1) := by decide +kernel
theorem dX11_totalOaths_12 : decode cX11_totalOaths 12 = .ok (.ireturn, 1) := by decide +kernel
theorem dX11_totalRefusals_0 : decode cX11_totalRefusals 0 = .ok (.aload_n 0, 1) := by decide +kernel
theorem dX11_totalRefusals_1 : decode cX11_totalRefusals 1 = .ok (.iconst 0, 1) := by decide +kernel
theorem dX11_totalRefusals_2 : decode cX11_totalRefusals 2 = .ok (.putfield 66, 3) := by decide +kernel
theorem dX11_totalRefusals_5 : decode cX11_totalRefusals 5 = .ok (.aload_n 0, 1) := by decide +kernel
theorem dX11_totalRefusals_6 : decode cX11_totalRefusals 6 = .ok (.getfield 7, 3) := by decide +kernel
theorem dX11_totalRefusals_9 : decode cX11_totalRefusals 9 = .ok (.bipush 13, 2) := by decide +kernel
theorem dX11_totalRefusals_11 : decode cX11_totalRefusals 11 = .ok (.iaload, 1) := by decide +kernel
theorem dX11_totalRefusals_12 : decode cX11_totalRefusals 12 = .ok (.ireturn, 1) := by decide +kernel
theorem dX11_noCat_0 : decode cX11_noCat 0 = .ok (.aload_n 0, 1) := by decide +kernel
theorem dX11_noCat_1 : decode cX11_noCat 1 = .ok (.iload_n 1, 1) := by decide +kernel
theorem dX11_noCat_2 : decode cX11_noCat 2 = .ok (.iconst 0, 1) := by decide +kernel
theorem dX11_noCat_3 : decode cX11_noCat 3 = .ok (.aload_n 0, 1) := by decide +kernel
theorem dX11_noCat_4 : decode cX11_noCat 4 = .ok (.getfield 7, 3) := by decide +kernel
theorem dX11_noCat_7 : decode cX11_noCat 7 = .ok (.iconst 0, 1) := by decide +kernel
theorem dX11_noCat_8 : decode cX11_noCat 8 = .ok (.iaload, 1) := by decide +kernel
theorem dX11_noCat_9 : decode cX11_noCat 9 = .ok (.iconst 1, 1) := by decide +kernel
theorem dX11_noCat_10 : decode cX11_noCat 10 = .ok (.isub, 1) := by decide +kernel
theorem dX11_noCat_11 : decode cX11_noCat 11 = .ok (.invokestatic 174, 3) := by decide +kernel
theorem dX11_noCat_14 : decode cX11_noCat 14 = .ok (.ifCond .ne 7, 3) := by decide +kernel
theorem dX11_noCat_17 : decode cX11_noCat 17 = .ok (.iconst 1, 1) := by decide +kernel
theorem dX11_noCat_18 : decode cX11_noCat 18 = .ok (.goto 4, 3) := by decide +kernel
theorem dX11_noCat_21 : decode cX11_noCat 21 = .ok (.iconst 0, 1) := by decide +kernel
theorem dX11_noCat_22 : decode cX11_noCat 22 = .ok (.iconst 1, 1) := by decide +kernel
theorem dX11_noCat_23 : decode cX11_noCat 23 = .ok (.invokevirtual 357, 3) := by decide +kernel
theorem dX11_noCat_26 : decode cX11_noCat 26 = .ok (.ireturn, 1) := by decide +kernel
theorem dX11_noSack_0 : decode cX11_noSack 0 = .ok (.aload_n 0, 1) := by decide +kernel
theorem dX11_noSack_1 : decode cX11_noSack 1 = .ok (.iload_n 1, 1) := by decide +kernel
theorem dX11_noSack_2 : decode cX11_noSack 2 = .ok (.iconst 0, 1) := by decide +kernel
theorem dX11_noSack_3 : decode cX11_noSack 3 = .ok (.aload_n 0, 1) := by decide +kernel
theorem dX11_noSack_4 : decode cX11_noSack 4 = .ok (.getfield 7, 3) := by decide +kernel
theorem dX11_noSack_7 : decode cX11_noSack 7 = .ok (.iconst 1, 1) := by decide +kernel
theorem dX11_noSack_8 : decode cX11_noSack 8 = .ok (.iaload, 1) := by decide +kernel
theorem dX11_noSack_9 : decode cX11_noSack 9 = .ok (.iconst 1, 1) := by decide +kernel
theorem dX11_noSack_10 : decode cX11_noSack 10 = .ok (.isub, 1) := by decide +kernel
theorem dX11_noSack_11 : decode cX11_noSack 11 = .ok (.invokestatic 174, 3) := by decide +kernel
theorem dX11_noSack_14 : decode cX11_noSack 14 = .ok (.ifCond .ne 7, 3) := by decide +kernel
theorem dX11_noSack_17 : decode cX11_noSack 17 = .ok (.iconst 1, 1) := by decide +kernel
theorem dX11_noSack_18 : decode cX11_noSack 18 = .ok (.goto 4, 3) := by decide +kernel
theorem dX11_noSack_21 : decode cX11_noSack 21 = .ok (.iconst 0, 1) := by decide +kernel
theorem dX11_noSack_22 : decode cX11_noSack 22 = .ok (.iconst 1, 1) := by decide +kernel
theorem dX11_noSack_23 : decode cX11_noSack 23 = .ok (.invokevirtual 357, 3) := by decide +kernel
theorem dX11_noSack_26 : decode cX11_noSack 26 = .ok (.ireturn, 1) := by decide +kernel
theorem dX11_noShift_0 : decode cX11_noShift 0 = .ok (.aload_n 0, 1) := by decide +kernel
theorem dX11_noShift_1 : decode cX11_noShift 1 = .ok (.iload_n 1, 1) := by decide +kernel
theorem dX11_noShift_2 : decode cX11_noShift 2 = .ok (.iconst 0, 1) := by decide +kernel
theorem dX11_noShift_3 : decode cX11_noShift 3 = .ok (.aload_n 0, 1) := by decide +kernel
theorem dX11_noShift_4 : decode cX11_noShift 4 = .ok (.getfield 7, 3) := by decide +kernel
theorem dX11_noShift_7 : decode cX11_noShift 7 = .ok (.iconst 2, 1) := by decide +kernel
theorem dX11_noShift_8 : decode cX11_noShift 8 = .ok (.iaload, 1) := by decide +kernel
theorem dX11_noShift_9 : decode cX11_noShift 9 = .ok (.iconst 1, 1) := by decide +kernel
theorem dX11_noShift_10 : decode cX11_noShift 10 = .ok (.isub, 1) := by decide +kernel
theorem dX11_noShift_11 : decode cX11_noShift 11 = .ok (.invokestatic 174, 3) := by decide +kernel
theorem dX11_noShift_14 : decode cX11_noShift 14 = .ok (.ifCond .ne 7, 3) := by decide +kernel
theorem dX11_noShift_17 : decode cX11_noShift 17 = .ok (.iconst 1, 1) := by decide +kernel
theorem dX11_noShift_18 : decode cX11_noShift 18 = .ok (.goto 4, 3) := by decide +kernel
theorem dX11_noShift_21 : decode cX11_noShift 21 = .ok (.iconst 0, 1) := by decide +kernel
theorem dX11_noShift_22 : decode cX11_noShift 22 = .ok (.iconst 1, 1) := by decide +kernel
theorem dX11_noShift_23 : decode cX11_noShift 23 = .ok (.invokevirtual 357, 3) := by decide +kernel
theorem dX11_noShift_26 : decode cX11_noShift 26 = .ok (.ireturn, 1) := by decide +kernel
theorem dX11_noHours_0 : decode cX11_noHours 0 = .ok (.aload_n 0, 1) := by decide +kernel
theorem dX11_noHours_1 : decode cX11_noHours 1 = .ok (.iload_n 1, 1) := by decide +kernel
theorem dX11_noHours_2 : decode cX11_noHours 2 = .ok (.iconst 0, 1) := by decide +kernel
theorem dX11_noHours_3 : decode cX11_noHours 3 = .ok (.sipush 200, 3) := by decide +kernel
theorem dX11_noHours_6 : decode cX11_noHours 6 = .ok (.invokestatic 174, 3) := by decide +kernel
theorem dX11_noHours_9 : decode cX11_noHours 9 = .ok (.ifCond .ne 7, 3) := by decide +kernel
theorem dX11_noHours_12 : decode cX11_noHours 12 = .ok (.iconst 1, 1) := by decide +kernel
theorem dX11_noHours_13 : decode cX11_noHours 13 = .ok (.goto 4, 3) := by decide +kernel
theorem dX11_noHours_16 : decode cX11_noHours 16 = .ok (.iconst 0, 1) := by decide +kernel
theorem dX11_noHours_17 : decode cX11_noHours 17 = .ok (.iload_n 2, 1) := by decide +kernel
theorem dX11_noHours_18 : decode cX11_noHours 18 = .ok (.invokevirtual 357, 3) := by decide +kernel
theorem dX11_noHours_21 : decode cX11_noHours 21 = .ok (.ireturn, 1) := by decide +kernel
theorem dX11_reasonOf_0 : decode cX11_reasonOf 0 = .ok (.aload_n 0, 1) := by decide +kernel
theorem dX11_reasonOf_1 : decode cX11_reasonOf 1 = .ok (.getfield 7, 3) := by decide +kernel
theorem dX11_reasonOf_4 : decode cX11_reasonOf 4 = .ok (.iconst 5, 1) := by decide +kernel
theorem dX11_reasonOf_5 : decode cX11_reasonOf 5 = .ok (.iaload, 1) := by decide +kernel
theorem dX11_reasonOf_6 : decode cX11_reasonOf 6 = .ok (.iconst (-1), 1) := by decide +kernel
theorem dX11_reasonOf_7 : decode cX11_reasonOf 7 = .ok (.if_icmp .ne 5, 3) := by decide +kernel
theorem dX11_reasonOf_10 : decode cX11_reasonOf 10 = .ok (.iconst 1, 1) := by decide +kernel
theorem dX11_reasonOf_11 : decode cX11_reasonOf 11 = .ok (.ireturn, 1) := by decide +kernel
theorem dX11_reasonOf_12 : decode cX11_reasonOf 12 = .ok (.aload_n 0, 1) := by decide +kernel
theorem dX11_reasonOf_13 : decode cX11_reasonOf 13 = .ok (.iload_n 1, 1) := by decide +kernel
theorem dX11_reasonOf_14 : decode cX11_reasonOf 14 = .ok (.invokevirtual 128, 3) := by decide +kernel
theorem dX11_reasonOf_17 : decode cX11_reasonOf 17 = .ok (.ifCond .ne 5, 3) := by decide +kernel
theorem dX11_reasonOf_20 : decode cX11_reasonOf 20 = .ok (.iconst 2, 1) := by decide +kernel
theorem dX11_reasonOf_21 : decode cX11_reasonOf 21 = .ok (.ireturn, 1) := by decide +kernel
theorem dX11_reasonOf_22 : decode cX11_reasonOf 22 = .ok (.aload_n 0, 1) := by decide +kernel
theorem dX11_reasonOf_23 : decode cX11_reasonOf 23 = .ok (.iload_n 1, 1) := by decide +kernel
theorem dX11_reasonOf_24 : decode cX11_reasonOf 24 = .ok (.invokevirtual 131, 3) := by decide +kernel
theorem dX11_reasonOf_27 : decode cX11_reasonOf 27 = .ok (.ifCond .eq 7, 3) := by decide +kernel
theorem dX11_reasonOf_30 : decode cX11_reasonOf 30 = .ok (.iconst 0, 1) := by decide +kernel
theorem dX11_reasonOf_31 : decode cX11_reasonOf 31 = .ok (.goto 4, 3) := by decide +kernel
theorem dX11_reasonOf_34 : decode cX11_reasonOf 34 = .ok (.iconst 3, 1) := by decide +kernel
theorem dX11_reasonOf_35 : decode cX11_reasonOf 35 = .ok (.ireturn, 1) := by decide +kernel
theorem dX11_speedOf_0 : decode cX11_speedOf 0 = .ok (.aload_n 0, 1) := by decide +kernel
theorem dX11_speedOf_1 : decode cX11_speedOf 1 = .ok (.iconst 0, 1) := by decide +kernel
theorem dX11_speedOf_2 : decode cX11_speedOf 2 = .ok (.putfield 66, 3) := by decide +kernel
theorem dX11_speedOf_5 : decode cX11_speedOf 5 = .ok (.aload_n 0, 1) := by decide +kernel
theorem dX11_speedOf_6 : decode cX11_speedOf 6 = .ok (.iload_n 1, 1) := by decide +kernel
theorem dX11_speedOf_7 : decode cX11_speedOf 7 = .ok (.invokevirtual 361, 3) := by decide +kernel
theorem dX11_speedOf_10 : decode cX11_speedOf 10 = .ok (.ifCond .eq 7, 3) := by decide +kernel
theorem dX11_speedOf_13 : decode cX11_speedOf 13 = .ok (.iconst 0, 1) := by decide +kernel
theorem dX11_speedOf_14 : decode cX11_speedOf 14 = .ok (.goto 10, 3) := by decide +kernel
theorem dX11_speedOf_17 : decode cX11_speedOf 17 = .ok (.aload_n 0, 1) := by decide +kernel
theorem dX11_speedOf_18 : decode cX11_speedOf 18 = .ok (.iload_n 1, 1) := by decide +kernel
theorem dX11_speedOf_19 : decode cX11_speedOf 19 = .ok (.bipush 7, 2) := by decide +kernel
theorem dX11_speedOf_21 : decode cX11_speedOf 21 = .ok (.invokevirtual 90, 3) := by decide +kernel
theorem dX11_speedOf_24 : decode cX11_speedOf 24 = .ok (.ireturn, 1) := by decide +kernel
theorem dX11_tirednessOf_0 : decode cX11_tirednessOf 0 = .ok (.aload_n 0, 1) := by decide +kernel
theorem dX11_tirednessOf_1 : decode cX11_tirednessOf 1 = .ok (.iconst 0, 1) := by decide +kernel
theorem dX11_tirednessOf_2 : decode cX11_tirednessOf 2 = .ok (.putfield 66, 3) := by decide +kernel
theorem dX11_tirednessOf_5 : decode cX11_tirednessOf 5 = .ok (.aload_n 0, 1) := by decide +kernel
theorem dX11_tirednessOf_6 : decode cX11_tirednessOf 6 = .ok (.iload_n 1, 1) := by decide +kernel
theorem dX11_tirednessOf_7 : decode cX11_tirednessOf 7 = .ok (.invokevirtual 361, 3) := by decide +kernel
theorem dX11_tirednessOf_10 : decode cX11_tirednessOf 10 = .ok (.ifCond .eq 7, 3) := by decide +kernel
theorem dX11_tirednessOf_13 : decode cX11_tirednessOf 13 = .ok (.iconst 0, 1) := by decide +kernel
theorem dX11_tirednessOf_14 : decode cX11_tirednessOf 14 = .ok (.goto 10, 3) := by decide +kernel
theorem dX11_tirednessOf_17 : decode cX11_tirednessOf 17 = .ok (.aload_n 0, 1) := by decide +kernel
theorem dX11_tirednessOf_18 : decode cX11_tirednessOf 18 = .ok (.iload_n 1, 1) := by decide +kernel
theorem dX11_tirednessOf_19 : decode cX11_tirednessOf 19 = .ok (.bipush 9, 2) := by decide +kernel
theorem dX11_tirednessOf_21 : decode cX11_tirednessOf 21 = .ok (.invokevirtual 90, 3) := by decide +kernel
theorem dX11_tirednessOf_24 : decode cX11_tirednessOf 24 = .ok (.ireturn, 1) := by decide +kernel
theorem dX11_strengthOf_0 : decode cX11_strengthOf 0 = .ok (.aload_n 0, 1) := by decide +kernel
theorem dX11_strengthOf_1 : decode cX11_strengthOf 1 = .ok (.iconst 0, 1) := by decide +kernel
theorem dX11_strengthOf_2 : decode cX11_strengthOf 2 = .ok (.putfield 66, 3) := by decide +kernel
theorem dX11_strengthOf_5 : decode cX11_strengthOf 5 = .ok (.aload_n 0, 1) := by decide +kernel
theorem dX11_strengthOf_6 : decode cX11_strengthOf 6 = .ok (.iload_n 1, 1) := by decide +kernel
theorem dX11_strengthOf_7 : decode cX11_strengthOf 7 = .ok (.invokevirtual 361, 3) := by decide +kernel
theorem dX11_strengthOf_10 : decode cX11_strengthOf 10 = .ok (.ifCond .eq 7, 3) := by decide +kernel
theorem dX11_strengthOf_13 : decode cX11_strengthOf 13 = .ok (.iconst 0, 1) := by decide +kernel
theorem dX11_strengthOf_14 : decode cX11_strengthOf 14 = .ok (.goto 8, 3) := by decide +kernel
theorem dX11_strengthOf_17 : decode cX11_strengthOf 17 = .ok (.aload_n 0, 1) := by decide +kernel
theorem dX11_strengthOf_18 : decode cX11_strengthOf 18 = .ok (.iload_n 1, 1) := by decide +kernel
theorem dX11_strengthOf_19 : decode cX11_strengthOf 19 = .ok (.invokevirtual 122, 3) := by decide +kernel
theorem dX11_strengthOf_22 : decode cX11_strengthOf 22 = .ok (.ireturn, 1) := by decide +kernel
theorem dX11_caughtBy_0 : decode cX11_caughtBy 0 = .ok (.aload_n 0, 1) := by decide +kernel
theorem dX11_caughtBy_1 : decode cX11_caughtBy 1 = .ok (.iconst 0, 1) := by decide +kernel
theorem dX11_caughtBy_2 : decode cX11_caughtBy 2 = .ok (.putfield 66, 3) := by decide +kernel
theorem dX11_caughtBy_5 : decode cX11_caughtBy 5 = .ok (.aload_n 0, 1) := by decide +kernel
theorem dX11_caughtBy_6 : decode cX11_caughtBy 6 = .ok (.iload_n 1, 1) := by decide +kernel
theorem dX11_caughtBy_7 : decode cX11_caughtBy 7 = .ok (.invokevirtual 361, 3) := by decide +kernel
theorem dX11_caughtBy_10 : decode cX11_caughtBy 10 = .ok (.ifCond .eq 7, 3) := by decide +kernel
theorem dX11_caughtBy_13 : decode cX11_caughtBy 13 = .ok (.iconst 0, 1) := by decide +kernel
theorem dX11_caughtBy_14 : decode cX11_caughtBy 14 = .ok (.goto 10, 3) := by decide +kernel
theorem dX11_caughtBy_17 : decode cX11_caughtBy 17 = .ok (.aload_n 0, 1) := by decide +kernel
theorem dX11_caughtBy_18 : decode cX11_caughtBy 18 = .ok (.iload_n 1, 1) := by decide +kernel
theorem dX11_caughtBy_19 : decode cX11_caughtBy 19 = .ok (.bipush 10, 2) := by decide +kernel
theorem dX11_caughtBy_21 : decode cX11_caughtBy 21 = .ok (.invokevirtual 90, 3) := by decide +kernel
theorem dX11_caughtBy_24 : decode cX11_caughtBy 24 = .ok (.ireturn, 1) := by decide +kernel
theorem dX11_oathsOf_0 : decode cX11_oathsOf 0 = .ok (.aload_n 0, 1) := by decide +kernel
theorem dX11_oathsOf_1 : decode cX11_oathsOf 1 = .ok (.iconst 0, 1) := by decide +kernel
theorem dX11_oathsOf_2 : decode cX11_oathsOf 2 = .ok (.putfield 66, 3) := by decide +kernel
theorem dX11_oathsOf_5 : decode cX11_oathsOf 5 = .ok (.aload_n 0, 1) := by decide +kernel
theorem dX11_oathsOf_6 : decode cX11_oathsOf 6 = .ok (.iload_n 1, 1) := by decide +kernel
theorem dX11_oathsOf_7 : decode cX11_oathsOf 7 = .ok (.invokevirtual 361, 3) := by decide +kernel
theorem dX11_oathsOf_10 : decode cX11_oathsOf 10 = .ok (.ifCond .eq 7, 3) := by decide +kernel
theorem dX11_oathsOf_13 : decode cX11_oathsOf 13 = .ok (.iconst 0, 1) := by decide +kernel
theorem dX11_oathsOf_14 : decode cX11_oathsOf 14 = .ok (.goto 10, 3) := by decide +kernel
theorem dX11_oathsOf_17 : decode cX11_oathsOf 17 = .ok (.aload_n 0, 1) := by decide +kernel
theorem dX11_oathsOf_18 : decode cX11_oathsOf 18 = .ok (.iload_n 1, 1) := by decide +kernel
theorem dX11_oathsOf_19 : decode cX11_oathsOf 19 = .ok (.bipush 11, 2) := by decide +kernel
theorem dX11_oathsOf_21 : decode cX11_oathsOf 21 = .ok (.invokevirtual 90, 3) := by decide +kernel
theorem dX11_oathsOf_24 : decode cX11_oathsOf 24 = .ok (.ireturn, 1) := by decide +kernel
theorem dX11_oathReason_0 : decode cX11_oathReason 0 = .ok (.aload_n 0, 1) := by decide +kernel
theorem dX11_oathReason_1 : decode cX11_oathReason 1 = .ok (.iconst 0, 1) := by decide +kernel
theorem dX11_oathReason_2 : decode cX11_oathReason 2 = .ok (.putfield 66, 3) := by decide +kernel
theorem dX11_oathReason_5 : decode cX11_oathReason 5 = .ok (.aload_n 0, 1) := by decide +kernel
theorem dX11_oathReason_6 : decode cX11_oathReason 6 = .ok (.iload_n 1, 1) := by decide +kernel
theorem dX11_oathReason_7 : decode cX11_oathReason 7 = .ok (.invokevirtual 361, 3) := by decide +kernel
theorem dX11_oathReason_10 : decode cX11_oathReason 10 = .ok (.ifCond .eq 7, 3) := by decide +kernel
theorem dX11_oathReason_13 : decode cX11_oathReason 13 = .ok (.iconst 0, 1) := by decide +kernel
theorem dX11_oathReason_14 : decode cX11_oathReason 14 = .ok (.goto 8, 3) := by decide +kernel
theorem dX11_oathReason_17 : decode cX11_oathReason 17 = .ok (.aload_n 0, 1) := by decide +kernel
theorem dX11_oathReason_18 : decode cX11_oathReason 18 = .ok (.iload_n 1, 1) := by decide +kernel
theorem dX11_oathReason_19 : decode cX11_oathReason 19 = .ok (.invokevirtual 364, 3) := by decide +kernel
theorem dX11_oathReason_22 : decode cX11_oathReason 22 = .ok (.ireturn, 1) := by decide +kernel
theorem dX11_grainIn_0 : decode cX11_grainIn 0 = .ok (.aload_n 0, 1) := by decide +kernel
theorem dX11_grainIn_1 : decode cX11_grainIn 1 = .ok (.iconst 0, 1) := by decide +kernel
theorem dX11_grainIn_2 : decode cX11_grainIn 2 = .ok (.putfield 66, 3) := by decide +kernel
theorem dX11_grainIn_5 : decode cX11_grainIn 5 = .ok (.aload_n 0, 1) := by decide +kernel
theorem dX11_grainIn_6 : decode cX11_grainIn 6 = .ok (.iload_n 1, 1) := by decide +kernel
theorem dX11_grainIn_7 : decode cX11_grainIn 7 = .ok (.invokevirtual 367, 3) := by decide +kernel
theorem dX11_grainIn_10 : decode cX11_grainIn 10 = .ok (.ifCond .eq 7, 3) := by decide +kernel
theorem dX11_grainIn_13 : decode cX11_grainIn 13 = .ok (.iconst 0, 1) := by decide +kernel
theorem dX11_grainIn_14 : decode cX11_grainIn 14 = .ok (.goto 10, 3) := by decide +kernel
theorem dX11_grainIn_17 : decode cX11_grainIn 17 = .ok (.aload_n 0, 1) := by decide +kernel
theorem dX11_grainIn_18 : decode cX11_grainIn 18 = .ok (.iload_n 1, 1) := by decide +kernel
theorem dX11_grainIn_19 : decode cX11_grainIn 19 = .ok (.bipush 7, 2) := by decide +kernel
theorem dX11_grainIn_21 : decode cX11_grainIn 21 = .ok (.invokevirtual 99, 3) := by decide +kernel
theorem dX11_grainIn_24 : decode cX11_grainIn 24 = .ok (.ireturn, 1) := by decide +kernel
theorem dX11_miceIn_0 : decode cX11_miceIn 0 = .ok (.aload_n 0, 1) := by decide +kernel
theorem dX11_miceIn_1 : decode cX11_miceIn 1 = .ok (.iconst 0, 1) := by decide +kernel
theorem dX11_miceIn_2 : decode cX11_miceIn 2 = .ok (.putfield 66, 3) := by decide +kernel
theorem dX11_miceIn_5 : decode cX11_miceIn 5 = .ok (.aload_n 0, 1) := by decide +kernel
theorem dX11_miceIn_6 : decode cX11_miceIn 6 = .ok (.iload_n 1, 1) := by decide +kernel
theorem dX11_miceIn_7 : decode cX11_miceIn 7 = .ok (.invokevirtual 367, 3) := by decide +kernel
theorem dX11_miceIn_10 : decode cX11_miceIn 10 = .ok (.ifCond .eq 7, 3) := by decide +kernel
theorem dX11_miceIn_13 : decode cX11_miceIn 13 = .ok (.iconst 0, 1) := by decide +kernel
theorem dX11_miceIn_14 : decode cX11_miceIn 14 = .ok (.goto 10, 3) := by decide +kernel
theorem dX11_miceIn_17 : decode cX11_miceIn 17 = .ok (.aload_n 0, 1) := by decide +kernel
theorem dX11_miceIn_18 : decode cX11_miceIn 18 = .ok (.iload_n 1, 1) := by decide +kernel
theorem dX11_miceIn_19 : decode cX11_miceIn 19 = .ok (.bipush 8, 2) := by decide +kernel
theorem dX11_miceIn_21 : decode cX11_miceIn 21 = .ok (.invokevirtual 99, 3) := by decide +kernel
theorem dX11_miceIn_24 : decode cX11_miceIn 24 = .ok (.ireturn, 1) := by decide +kernel
theorem dX11_eatenFrom_0 : decode cX11_eatenFrom 0 = .ok (.aload_n 0, 1) := by decide +kernel
theorem dX11_eatenFrom_1 : decode cX11_eatenFrom 1 = .ok (.iconst 0, 1) := by decide +kernel
theorem dX11_eatenFrom_2 : decode cX11_eatenFrom 2 = .ok (.putfield 66, 3) := by decide +kernel
theorem dX11_eatenFrom_5 : decode cX11_eatenFrom 5 = .ok (.aload_n 0, 1) := by decide +kernel
theorem dX11_eatenFrom_6 : decode cX11_eatenFrom 6 = .ok (.iload_n 1, 1) := by decide +kernel
theorem dX11_eatenFrom_7 : decode cX11_eatenFrom 7 = .ok (.invokevirtual 367, 3) := by decide +kernel
theorem dX11_eatenFrom_10 : decode cX11_eatenFrom 10 = .ok (.ifCond .eq 7, 3) := by decide +kernel
theorem dX11_eatenFrom_13 : decode cX11_eatenFrom 13 = .ok (.iconst 0, 1) := by decide +kernel
theorem dX11_eatenFrom_14 : decode cX11_eatenFrom 14 = .ok (.goto 10, 3) := by decide +kernel
theorem dX11_eatenFrom_17 : decode cX11_eatenFrom 17 = .ok (.aload_n 0, 1) := by decide +kernel
theorem dX11_eatenFrom_18 : decode cX11_eatenFrom 18 = .ok (.iload_n 1, 1) := by decide +kernel
theorem dX11_eatenFrom_19 : decode cX11_eatenFrom 19 = .ok (.bipush 10, 2) := by decide +kernel
theorem dX11_eatenFrom_21 : decode cX11_eatenFrom 21 = .ok (.invokevirtual 99, 3) := by decide +kernel
theorem dX11_eatenFrom_24 : decode cX11_eatenFrom 24 = .ok (.ireturn, 1) := by decide +kernel
theorem dX11_hourOfDay_0 : decode cX11_hourOfDay 0 = .ok (.aload_n 0, 1) := by decide +kernel
theorem dX11_hourOfDay_1 : decode cX11_hourOfDay 1 = .ok (.iconst 0, 1) := by decide +kernel
theorem dX11_hourOfDay_2 : decode cX11_hourOfDay 2 = .ok (.putfield 66, 3) := by decide +kernel
theorem dX11_hourOfDay_5 : decode cX11_hourOfDay 5 = .ok (.aload_n 0, 1) := by decide +kernel
theorem dX11_hourOfDay_6 : decode cX11_hourOfDay 6 = .ok (.getfield 7, 3) := by decide +kernel
theorem dX11_hourOfDay_9 : decode cX11_hourOfDay 9 = .ok (.iconst 3, 1) := by decide +kernel
theorem dX11_hourOfDay_10 : decode cX11_hourOfDay 10 = .ok (.iaload, 1) := by decide +kernel
theorem dX11_hourOfDay_11 : decode cX11_hourOfDay 11 = .ok (.bipush 24, 2) := by decide +kernel
theorem dX11_hourOfDay_13 : decode cX11_hourOfDay 13 = .ok (.irem, 1) := by decide +kernel
theorem dX11_hourOfDay_14 : decode cX11_hourOfDay 14 = .ok (.ireturn, 1) := by decide +kernel
theorem dX11_catNameByte_0 : decode cX11_catNameByte 0 = .ok (.aload_n 0, 1) := by decide +kernel
theorem dX11_catNameByte_1 : decode cX11_catNameByte 1 = .ok (.iconst 0, 1) := by decide +kernel
theorem dX11_catNameByte_2 : decode cX11_catNameByte 2 = .ok (.putfield 66, 3) := by decide +kernel
theorem dX11_catNameByte_5 : decode cX11_catNameByte 5 = .ok (.aload_n 0, 1) := by decide +kernel
theorem dX11_catNameByte_6 : decode cX11_catNameByte 6 = .ok (.iload_n 1, 1) := by decide +kernel
theorem dX11_catNameByte_7 : decode cX11_catNameByte 7 = .ok (.invokevirtual 361, 3) := by decide +kernel
theorem dX11_catNameByte_10 : decode cX11_catNameByte 10 = .ok (.ifCond .eq 5, 3) := by decide +kernel
theorem dX11_catNameByte_13 : decode cX11_catNameByte 13 = .ok (.iconst 0, 1) := by decide +kernel
theorem dX11_catNameByte_14 : decode cX11_catNameByte 14 = .ok (.ireturn, 1) := by decide +kernel
theorem dX11_catNameByte_15 : decode cX11_catNameByte 15 = .ok (.iload_n 2, 1) := by decide +kernel
theorem dX11_catNameByte_16 : decode cX11_catNameByte 16 = .ok (.iconst 0, 1) := by decide +kernel
theorem dX11_catNameByte_17 : decode cX11_catNameByte 17 = .ok (.aload_n 0, 1) := by decide +kernel
theorem dX11_catNameByte_18 : decode cX11_catNameByte 18 = .ok (.iload_n 1, 1) := by decide +kernel
theorem dX11_catNameByte_19 : decode cX11_catNameByte 19 = .ok (.iconst 0, 1) := by decide +kernel
theorem dX11_catNameByte_20 : decode cX11_catNameByte 20 = .ok (.invokevirtual 90, 3) := by decide +kernel
theorem dX11_catNameByte_23 : decode cX11_catNameByte 23 = .ok (.iconst 1, 1) := by decide +kernel
theorem dX11_catNameByte_24 : decode cX11_catNameByte 24 = .ok (.isub, 1) := by decide +kernel
theorem dX11_catNameByte_25 : decode cX11_catNameByte 25 = .ok (.invokestatic 174, 3) := by decide +kernel
theorem dX11_catNameByte_28 : decode cX11_catNameByte 28 = .ok (.ifCond .eq 14, 3) := by decide +kernel
theorem dX11_catNameByte_31 : decode cX11_catNameByte 31 = .ok (.aload_n 0, 1) := by decide +kernel
theorem dX11_catNameByte_32 : decode cX11_catNameByte 32 = .ok (.iload_n 1, 1) := by decide +kernel
theorem dX11_catNameByte_33 : decode cX11_catNameByte 33 = .ok (.iconst 1, 1) := by decide +kernel
theorem dX11_catNameByte_34 : decode cX11_catNameByte 34 = .ok (.iload_n 2, 1) := by decide +kernel
theorem dX11_catNameByte_35 : decode cX11_catNameByte 35 = .ok (.iadd, 1) := by decide +kernel
theorem dX11_catNameByte_36 : decode cX11_catNameByte 36 = .ok (.invokevirtual 90, 3) := by decide +kernel
theorem dX11_catNameByte_39 : decode cX11_catNameByte 39 = .ok (.goto 4, 3) := by decide +kernel
theorem dX11_catNameByte_42 : decode cX11_catNameByte 42 = .ok (.iconst (-1), 1) := by decide +kernel
theorem dX11_catNameByte_43 : decode cX11_catNameByte 43 = .ok (.ireturn, 1) := by decide +kernel
theorem dX11_sackNameByte_0 : decode cX11_sackNameByte 0 = .ok (.aload_n 0, 1) := by decide +kernel
theorem dX11_sackNameByte_1 : decode cX11_sackNameByte 1 = .ok (.iconst 0, 1) := by decide +kernel
theorem dX11_sackNameByte_2 : decode cX11_sackNameByte 2 = .ok (.putfield 66, 3) := by decide +kernel
theorem dX11_sackNameByte_5 : decode cX11_sackNameByte 5 = .ok (.aload_n 0, 1) := by decide +kernel
theorem dX11_sackNameByte_6 : decode cX11_sackNameByte 6 = .ok (.iload_n 1, 1) := by decide +kernel
theorem dX11_sackNameByte_7 : decode cX11_sackNameByte 7 = .ok (.invokevirtual 367, 3) := by decide +kernel
theorem dX11_sackNameByte_10 : decode cX11_sackNameByte 10 = .ok (.ifCond .eq 5, 3) := by decide +kernel
theorem dX11_sackNameByte_13 : decode cX11_sackNameByte 13 = .ok (.iconst 0, 1) := by decide +kernel
theorem dX11_sackNameByte_14 : decode cX11_sackNameByte 14 = .ok (.ireturn, 1) := by decide +kernel
theorem dX11_sackNameByte_15 : decode cX11_sackNameByte 15 = .ok (.iload_n 2, 1) := by decide +kernel
theorem dX11_sackNameByte_16 : decode cX11_sackNameByte 16 = .ok (.iconst 0, 1) := by decide +kernel
theorem dX11_sackNameByte_17 : decode cX11_sackNameByte 17 = .ok (.aload_n 0, 1) := by decide +kernel
theorem dX11_sackNameByte_18 : decode cX11_sackNameByte 18 = .ok (.iload_n 1, 1) := by decide +kernel
theorem dX11_sackNameByte_19 : decode cX11_sackNameByte 19 = .ok (.iconst 0, 1) := by decide +kernel
theorem dX11_sackNameByte_20 : decode cX11_sackNameByte 20 = .ok (.invokevirtual 99, 3) := by decide +kernel
theorem dX11_sackNameByte_23 : decode cX11_sackNameByte 23 = .ok (.iconst 1, 1) := by decide +kernel
theorem dX11_sackNameByte_24 : decode cX11_sackNameByte 24 = .ok (.isub, 1) := by decide +kernel
theorem dX11_sackNameByte_25 : decode cX11_sackNameByte 25 = .ok (.invokestatic 174, 3) := by decide +kernel
theorem dX11_sackNameByte_28 : decode cX11_sackNameByte 28 = .ok (.ifCond .eq 14, 3) := by decide +kernel
theorem dX11_sackNameByte_31 : decode cX11_sackNameByte 31 = .ok (.aload_n 0, 1) := by decide +kernel
theorem dX11_sackNameByte_32 : decode cX11_sackNameByte 32 = .ok (.iload_n 1, 1) := by decide +kernel
theorem dX11_sackNameByte_33 : decode cX11_sackNameByte 33 = .ok (.iconst 1, 1) := by decide +kernel
theorem dX11_sackNameByte_34 : decode cX11_sackNameByte 34 = .ok (.iload_n 2, 1) := by decide +kernel
theorem dX11_sackNameByte_35 : decode cX11_sackNameByte 35 = .ok (.iadd, 1) := by decide +kernel
theorem dX11_sackNameByte_36 : decode cX11_sackNameByte 36 = .ok (.invokevirtual 99, 3) := by decide +kernel
theorem dX11_sackNameByte_39 : decode cX11_sackNameByte 39 = .ok (.goto 4, 3) := by decide +kernel
theorem dX11_sackNameByte_42 : decode cX11_sackNameByte 42 = .ok (.iconst (-1), 1) := by decide +kernel
theorem dX11_sackNameByte_43 : decode cX11_sackNameByte 43 = .ok (.ireturn, 1) := by decide +kernel
theorem dX11_isLeftPawed_0 : decode cX11_isLeftPawed 0 = .ok (.aload_n 0, 1) := by decide +kernel
theorem dX11_isLeftPawed_1 : decode cX11_isLeftPawed 1 = .ok (.iconst 0, 1) := by decide +kernel
theorem dX11_isLeftPawed_2 : decode cX11_isLeftPawed 2 = .ok (.putfield 66, 3) := by decide +kernel
theorem dX11_isLeftPawed_5 : decode cX11_isLeftPawed 5 = .ok (.aload_n 0, 1) := by decide +kernel
theorem dX11_isLeftPawed_6 : decode cX11_isLeftPawed 6 = .ok (.iload_n 1, 1) := by decide +kernel
theorem dX11_isLeftPawed_7 : decode cX11_isLeftPawed 7 = .ok (.invokevirtual 361, 3) := by decide +kernel
theorem dX11_isLeftPawed_10 : decode cX11_isLeftPawed 10 = .ok (.ifCond .ne 18, 3) := by decide +kernel
theorem dX11_isLeftPawed_13 : decode cX11_isLeftPawed 13 = .ok (.aload_n 0, 1) := by decide +kernel
theorem dX11_isLeftPawed_14 : decode cX11_isLeftPawed 14 = .ok (.iload_n 1, 1) := by decide +kernel
theorem dX11_isLeftPawed_15 : decode cX11_isLeftPawed 15 = .ok (.bipush 8, 2) := by decide +kernel
theorem dX11_isLeftPawed_17 : decode cX11_isLeftPawed 17 = .ok (.invokevirtual 90, 3) := by decide +kernel
theorem dX11_isLeftPawed_20 : decode cX11_isLeftPawed 20 = .ok (.iconst 1, 1) := by decide +kernel
theorem dX11_isLeftPawed_21 : decode cX11_isLeftPawed 21 = .ok (.if_icmp .ne 7, 3) := by decide +kernel
theorem dX11_isLeftPawed_24 : decode cX11_isLeftPawed 24 = .ok (.iconst 1, 1) := by decide +kernel
theorem dX11_isLeftPawed_25 : decode cX11_isLeftPawed 25 = .ok (.goto 4, 3) := by decide +kernel
theorem dX11_isLeftPawed_28 : decode cX11_isLeftPawed 28 = .ok (.iconst 0, 1) := by decide +kernel
theorem dX11_isLeftPawed_29 : decode cX11_isLeftPawed 29 = .ok (.ireturn, 1) := by decide +kernel
theorem dX11_isOpen_0 : decode cX11_isOpen 0 = .ok (.aload_n 0, 1) := by decide +kernel
theorem dX11_isOpen_1 : decode cX11_isOpen 1 = .ok (.iconst 0, 1) := by decide +kernel
theorem dX11_isOpen_2 : decode cX11_isOpen 2 = .ok (.putfield 66, 3) := by decide +kernel
theorem dX11_isOpen_5 : decode cX11_isOpen 5 = .ok (.aload_n 0, 1) := by decide +kernel
theorem dX11_isOpen_6 : decode cX11_isOpen 6 = .ok (.iload_n 1, 1) := by decide +kernel
theorem dX11_isOpen_7 : decode cX11_isOpen 7 = .ok (.invokevirtual 367, 3) := by decide +kernel
theorem dX11_isOpen_10 : decode cX11_isOpen 10 = .ok (.ifCond .ne 15, 3) := by decide +kernel
theorem dX11_isOpen_13 : decode cX11_isOpen 13 = .ok (.aload_n 0, 1) := by decide +kernel
theorem dX11_isOpen_14 : decode cX11_isOpen 14 = .ok (.iload_n 1, 1) := by decide +kernel
theorem dX11_isOpen_15 : decode cX11_isOpen 15 = .ok (.invokevirtual 102, 3) := by decide +kernel
theorem dX11_isOpen_18 : decode cX11_isOpen 18 = .ok (.ifCond .eq 7, 3) := by decide +kernel
theorem dX11_isOpen_21 : decode cX11_isOpen 21 = .ok (.iconst 1, 1) := by decide +kernel
theorem dX11_isOpen_22 : decode cX11_isOpen 22 = .ok (.goto 4, 3) := by decide +kernel
theorem dX11_isOpen_25 : decode cX11_isOpen 25 = .ok (.iconst 0, 1) := by decide +kernel
theorem dX11_isOpen_26 : decode cX11_isOpen 26 = .ok (.ireturn, 1) := by decide +kernel
theorem dX11_catOfShift_0 : decode cX11_catOfShift 0 = .ok (.aload_n 0, 1) := by decide +kernel
theorem dX11_catOfShift_1 : decode cX11_catOfShift 1 = .ok (.iconst 0, 1) := by decide +kernel
theorem dX11_catOfShift_2 : decode cX11_catOfShift 2 = .ok (.putfield 66, 3) := by decide +kernel
theorem dX11_catOfShift_5 : decode cX11_catOfShift 5 = .ok (.aload_n 0, 1) := by decide +kernel
theorem dX11_catOfShift_6 : decode cX11_catOfShift 6 = .ok (.iload_n 1, 1) := by decide +kernel
theorem dX11_catOfShift_7 : decode cX11_catOfShift 7 = .ok (.invokevirtual 370, 3) := by decide +kernel
theorem dX11_catOfShift_10 : decode cX11_catOfShift 10 = .ok (.ifCond .eq 7, 3) := by decide +kernel
theorem dX11_catOfShift_13 : decode cX11_catOfShift 13 = .ok (.iconst 0, 1) := by decide +kernel
theorem dX11_catOfShift_14 : decode cX11_catOfShift 14 = .ok (.goto 8, 3) := by decide +kernel
theorem dX11_catOfShift_17 : decode cX11_catOfShift 17 = .ok (.aload_n 0, 1) := by decide +kernel
theorem dX11_catOfShift_18 : decode cX11_catOfShift 18 = .ok (.iload_n 1, 1) := by decide +kernel
theorem dX11_catOfShift_19 : decode cX11_catOfShift 19 = .ok (.invokevirtual 83, 3) := by decide +kernel
theorem dX11_catOfShift_22 : decode cX11_catOfShift 22 = .ok (.ireturn, 1) := by decide +kernel
theorem dX11_hoursOfShift_0 : decode cX11_hoursOfShift 0 = .ok (.aload_n 0, 1) := by decide +kernel
theorem dX11_hoursOfShift_1 : decode cX11_hoursOfShift 1 = .ok (.iconst 0, 1) := by decide +kernel
theorem dX11_hoursOfShift_2 : decode cX11_hoursOfShift 2 = .ok (.putfield 66, 3) := by decide +kernel
theorem dX11_hoursOfShift_5 : decode cX11_hoursOfShift 5 = .ok (.aload_n 0, 1) := by decide +kernel
theorem dX11_hoursOfShift_6 : decode cX11_hoursOfShift 6 = .ok (.iload_n 1, 1) := by decide +kernel
theorem dX11_hoursOfShift_7 : decode cX11_hoursOfShift 7 = .ok (.invokevirtual 370, 3) := by decide +kernel
theorem dX11_hoursOfShift_10 : decode cX11_hoursOfShift 10 = .ok (.ifCond .eq 7, 3) := by decide +kernel
theorem dX11_hoursOfShift_13 : decode cX11_hoursOfShift 13 = .ok (.iconst 0, 1) := by decide +kernel
theorem dX11_hoursOfShift_14 : decode cX11_hoursOfShift 14 = .ok (.goto 8, 3) := by decide +kernel
theorem dX11_hoursOfShift_17 : decode cX11_hoursOfShift 17 = .ok (.aload_n 0, 1) := by decide +kernel
theorem dX11_hoursOfShift_18 : decode cX11_hoursOfShift 18 = .ok (.iload_n 1, 1) := by decide +kernel
theorem dX11_hoursOfShift_19 : decode cX11_hoursOfShift 19 = .ok (.invokevirtual 79, 3) := by decide +kernel
theorem dX11_hoursOfShift_22 : decode cX11_hoursOfShift 22 = .ok (.ireturn, 1) := by decide +kernel
theorem dX11_huntingSack_0 : decode cX11_huntingSack 0 = .ok (.aload_n 0, 1) := by decide +kernel
theorem dX11_huntingSack_1 : decode cX11_huntingSack 1 = .ok (.iconst 0, 1) := by decide +kernel
theorem dX11_huntingSack_2 : decode cX11_huntingSack 2 = .ok (.putfield 66, 3) := by decide +kernel
theorem dX11_huntingSack_5 : decode cX11_huntingSack 5 = .ok (.aload_n 0, 1) := by decide +kernel
theorem dX11_huntingSack_6 : decode cX11_huntingSack 6 = .ok (.invokevirtual 118, 3) := by decide +kernel
theorem dX11_huntingSack_9 : decode cX11_huntingSack 9 = .ok (.ireturn, 1) := by decide +kernel
theorem dX11_logged_0 : decode cX11_logged 0 = .ok (.iload_n 1, 1) := by decide +kernel
theorem dX11_logged_1 : decode cX11_logged 1 = .ok (.iconst 0, 1) := by decide +kernel
theorem dX11_logged_2 : decode cX11_logged 2 = .ok (.aload_n 0, 1) := by decide +kernel
theorem dX11_logged_3 : decode cX11_logged 3 = .ok (.getfield 7, 3) := by decide +kernel
theorem dX11_logged_6 : decode cX11_logged 6 = .ok (.bipush 16, 2) := by decide +kernel
theorem dX11_logged_8 : decode cX11_logged 8 = .ok (.iaload, 1) := by decide +kernel
theorem dX11_logged_9 : decode cX11_logged 9 = .ok (.iconst 1, 1) := by decide +kernel
theorem dX11_logged_10 : decode cX11_logged 10 = .ok (.isub, 1) := by decide +kernel
theorem dX11_logged_11 : decode cX11_logged 11 = .ok (.invokestatic 174, 3) := by decide +kernel
theorem dX11_logged_14 : decode cX11_logged 14 = .ok (.ifCond .eq 19, 3) := by decide +kernel
theorem dX11_logged_17 : decode cX11_logged 17 = .ok (.aload_n 0, 1) := by decide +kernel
theorem dX11_logged_18 : decode cX11_logged 18 = .ok (.getfield 7, 3) := by decide +kernel
theorem dX11_logged_21 : decode cX11_logged 21 = .ok (.bipush 17, 2) := by decide +kernel
theorem dX11_logged_23 : decode cX11_logged 23 = .ok (.iconst 3, 1) := by decide +kernel
theorem dX11_logged_24 : decode cX11_logged 24 = .ok (.iload_n 1, 1) := by decide +kernel
theorem dX11_logged_25 : decode cX11_logged 25 = .ok (.imul, 1) := by decide +kernel
theorem dX11_logged_26 : decode cX11_logged 26 = .ok (.iadd, 1) := by decide +kernel
theorem dX11_logged_27 : decode cX11_logged 27 = .ok (.iload_n 2, 1) := by decide +kernel
theorem dX11_logged_28 : decode cX11_logged 28 = .ok (.iadd, 1) := by decide +kernel
theorem dX11_logged_29 : decode cX11_logged 29 = .ok (.iaload, 1) := by decide +kernel
theorem dX11_logged_30 : decode cX11_logged 30 = .ok (.goto 4, 3) := by decide +kernel
theorem dX11_logged_33 : decode cX11_logged 33 = .ok (.iconst (-1), 1) := by decide +kernel
theorem dX11_logged_34 : decode cX11_logged 34 = .ok (.ireturn, 1) := by decide +kernel
theorem dX11_eventKind_0 : decode cX11_eventKind 0 = .ok (.aload_n 0, 1) := by decide +kernel
theorem dX11_eventKind_1 : decode cX11_eventKind 1 = .ok (.iconst 0, 1) := by decide +kernel
theorem dX11_eventKind_2 : decode cX11_eventKind 2 = .ok (.putfield 66, 3) := by decide +kernel
theorem dX11_eventKind_5 : decode cX11_eventKind 5 = .ok (.aload_n 0, 1) := by decide +kernel
theorem dX11_eventKind_6 : decode cX11_eventKind 6 = .ok (.iload_n 1, 1) := by decide +kernel
theorem dX11_eventKind_7 : decode cX11_eventKind 7 = .ok (.iconst 0, 1) := by decide +kernel
theorem dX11_eventKind_8 : decode cX11_eventKind 8 = .ok (.invokevirtual 373, 3) := by decide +kernel
theorem dX11_eventKind_11 : decode cX11_eventKind 11 = .ok (.ireturn, 1) := by decide +kernel
theorem dX11_eventCat_0 : decode cX11_eventCat 0 = .ok (.aload_n 0, 1) := by decide +kernel
theorem dX11_eventCat_1 : decode cX11_eventCat 1 = .ok (.iconst 0, 1) := by decide +kernel
theorem dX11_eventCat_2 : decode cX11_eventCat 2 = .ok (.putfield 66, 3) := by decide +kernel
theorem dX11_eventCat_5 : decode cX11_eventCat 5 = .ok (.aload_n 0, 1) := by decide +kernel
theorem dX11_eventCat_6 : decode cX11_eventCat 6 = .ok (.iload_n 1, 1) := by decide +kernel
theorem dX11_eventCat_7 : decode cX11_eventCat 7 = .ok (.iconst 1, 1) := by decide +kernel
theorem dX11_eventCat_8 : decode cX11_eventCat 8 = .ok (.invokevirtual 373, 3) := by decide +kernel
theorem dX11_eventCat_11 : decode cX11_eventCat 11 = .ok (.ireturn, 1) := by decide +kernel
theorem dX11_eventNumber_0 : decode cX11_eventNumber 0 = .ok (.aload_n 0, 1) := by decide +kernel
theorem dX11_eventNumber_1 : decode cX11_eventNumber 1 = .ok (.iconst 0, 1) := by decide +kernel
theorem dX11_eventNumber_2 : decode cX11_eventNumber 2 = .ok (.putfield 66, 3) := by decide +kernel
theorem dX11_eventNumber_5 : decode cX11_eventNumber 5 = .ok (.aload_n 0, 1) := by decide +kernel
theorem dX11_eventNumber_6 : decode cX11_eventNumber 6 = .ok (.iload_n 1, 1) := by decide +kernel
theorem dX11_eventNumber_7 : decode cX11_eventNumber 7 = .ok (.iconst 2, 1) := by decide +kernel
theorem dX11_eventNumber_8 : decode cX11_eventNumber 8 = .ok (.invokevirtual 373, 3) := by decide +kernel
theorem dX11_eventNumber_11 : decode cX11_eventNumber 11 = .ok (.ireturn, 1) := by decide +kernel
theorem dX11_sackAfter_0 : decode cX11_sackAfter 0 = .ok (.aload_n 0, 1) := by decide +kernel
theorem dX11_sackAfter_1 : decode cX11_sackAfter 1 = .ok (.invokevirtual 376, 3) := by decide +kernel
theorem dX11_sackAfter_4 : decode cX11_sackAfter 4 = .ok (.aload_n 0, 1) := by decide +kernel
theorem dX11_sackAfter_5 : decode cX11_sackAfter 5 = .ok (.iload_n 3, 1) := by decide +kernel
theorem dX11_sackAfter_6 : decode cX11_sackAfter 6 = .ok (.invokevirtual 327, 3) := by decide +kernel
theorem dX11_sackAfter_9 : decode cX11_sackAfter 9 = .ok (.istore 4, 2) := by decide +kernel
theorem dX11_sackAfter_11 : decode cX11_sackAfter 11 = .ok (.aload_n 0, 1) := by decide +kernel
theorem dX11_sackAfter_12 : decode cX11_sackAfter 12 = .ok (.aload_n 0, 1) := by decide +kernel
theorem dX11_sackAfter_13 : decode cX11_sackAfter 13 = .ok (.iload_n 1, 1) := by decide +kernel
theorem dX11_sackAfter_14 : decode cX11_sackAfter 14 = .ok (.iload_n 2, 1) := by decide +kernel
theorem dX11_sackAfter_15 : decode cX11_sackAfter 15 = .ok (.invokevirtual 99, 3) := by decide +kernel
theorem dX11_sackAfter_18 : decode cX11_sackAfter 18 = .ok (.invokevirtual 379, 3) := by decide +kernel
theorem dX11_sackAfter_21 : decode cX11_sackAfter 21 = .ok (.ireturn, 1) := by decide +kernel
theorem dX11_miceAfter_0 : decode cX11_miceAfter 0 = .ok (.aload_n 0, 1) := by decide +kernel
theorem dX11_miceAfter_1 : decode cX11_miceAfter 1 = .ok (.iconst 0, 1) := by decide +kernel
theorem dX11_miceAfter_2 : decode cX11_miceAfter 2 = .ok (.putfield 66, 3) := by decide +kernel
theorem dX11_miceAfter_5 : decode cX11_miceAfter 5 = .ok (.aload_n 0, 1) := by decide +kernel
theorem dX11_miceAfter_6 : decode cX11_miceAfter 6 = .ok (.iload_n 1, 1) := by decide +kernel
theorem dX11_miceAfter_7 : decode cX11_miceAfter 7 = .ok (.invokevirtual 367, 3) := by decide +kernel
theorem dX11_miceAfter_10 : decode cX11_miceAfter 10 = .ok (.ifCond .ne 12, 3) := by decide +kernel
theorem dX11_miceAfter_13 : decode cX11_miceAfter 13 = .ok (.aload_n 0, 1) := by decide +kernel
theorem dX11_miceAfter_14 : decode cX11_miceAfter 14 = .ok (.iload_n 2, 1) := by decide +kernel
theorem dX11_miceAfter_15 : decode cX11_miceAfter 15 = .ok (.iconst 2, 1) := by decide +kernel
theorem dX11_miceAfter_16 : decode cX11_miceAfter 16 = .ok (.invokevirtual 382, 3) := by decide +kernel
theorem dX11_miceAfter_19 : decode cX11_miceAfter 19 = .ok (.ifCond .eq 7, 3) := by decide +kernel
theorem dX11_miceAfter_22 : decode cX11_miceAfter 22 = .ok (.iconst 0, 1) := by decide +kernel
theorem dX11_miceAfter_23 : decode cX11_miceAfter 23 = .ok (.goto 11, 3) := by decide +kernel
theorem dX11_miceAfter_26 : decode cX11_miceAfter 26 = .ok (.aload_n 0, 1) := by decide +kernel
theorem dX11_miceAfter_27 : decode cX11_miceAfter 27 = .ok (.iload_n 1, 1) := by decide +kernel
theorem dX11_miceAfter_28 : decode cX11_miceAfter 28 = .ok (.bipush 8, 2) := by decide +kernel
theorem dX11_miceAfter_30 : decode cX11_miceAfter 30 = .ok (.iload_n 2, 1) := by decide +kernel
theorem dX11_miceAfter_31 : decode cX11_miceAfter 31 = .ok (.invokevirtual 385, 3) := by decide +kernel
theorem dX11_miceAfter_34 : decode cX11_miceAfter 34 = .ok (.ireturn, 1) := by decide +kernel
theorem dX11_grainAfter_0 : decode cX11_grainAfter 0 = .ok (.aload_n 0, 1) := by decide +kernel
theorem dX11_grainAfter_1 : decode cX11_grainAfter 1 = .ok (.iconst 0, 1) := by decide +kernel
theorem dX11_grainAfter_2 : decode cX11_grainAfter 2 = .ok (.putfield 66, 3) := by decide +kernel
theorem dX11_grainAfter_5 : decode cX11_grainAfter 5 = .ok (.aload_n 0, 1) := by decide +kernel
theorem dX11_grainAfter_6 : decode cX11_grainAfter 6 = .ok (.iload_n 1, 1) := by decide +kernel
theorem dX11_grainAfter_7 : decode cX11_grainAfter 7 = .ok (.invokevirtual 367, 3) := by decide +kernel
theorem dX11_grainAfter_10 : decode cX11_grainAfter 10 = .ok (.ifCond .ne 12, 3) := by decide +kernel
theorem dX11_grainAfter_13 : decode cX11_grainAfter 13 = .ok (.aload_n 0, 1) := by decide +kernel
theorem dX11_grainAfter_14 : decode cX11_grainAfter 14 = .ok (.iload_n 2, 1) := by decide +kernel
theorem dX11_grainAfter_15 : decode cX11_grainAfter 15 = .ok (.iconst 2, 1) := by decide +kernel
theorem dX11_grainAfter_16 : decode cX11_grainAfter 16 = .ok (.invokevirtual 382, 3) := by decide +kernel
theorem dX11_grainAfter_19 : decode cX11_grainAfter 19 = .ok (.ifCond .eq 7, 3) := by decide +kernel
theorem dX11_grainAfter_22 : decode cX11_grainAfter 22 = .ok (.iconst 0, 1) := by decide +kernel
theorem dX11_grainAfter_23 : decode cX11_grainAfter 23 = .ok (.goto 11, 3) := by decide +kernel
theorem dX11_grainAfter_26 : decode cX11_grainAfter 26 = .ok (.aload_n 0, 1) := by decide +kernel
theorem dX11_grainAfter_27 : decode cX11_grainAfter 27 = .ok (.iload_n 1, 1) := by decide +kernel
theorem dX11_grainAfter_28 : decode cX11_grainAfter 28 = .ok (.bipush 7, 2) := by decide +kernel
theorem dX11_grainAfter_30 : decode cX11_grainAfter 30 = .ok (.iload_n 2, 1) := by decide +kernel
theorem dX11_grainAfter_31 : decode cX11_grainAfter 31 = .ok (.invokevirtual 385, 3) := by decide +kernel
theorem dX11_grainAfter_34 : decode cX11_grainAfter 34 = .ok (.ireturn, 1) := by decide +kernel
theorem dX11_swornAfter_0 : decode cX11_swornAfter 0 = .ok (.aload_n 0, 1) := by decide +kernel
theorem dX11_swornAfter_1 : decode cX11_swornAfter 1 = .ok (.iconst 0, 1) := by decide +kernel
theorem dX11_swornAfter_2 : decode cX11_swornAfter 2 = .ok (.putfield 66, 3) := by decide +kernel
theorem dX11_swornAfter_5 : decode cX11_swornAfter 5 = .ok (.aload_n 0, 1) := by decide +kernel
theorem dX11_swornAfter_6 : decode cX11_swornAfter 6 = .ok (.iload_n 1, 1) := by decide +kernel
theorem dX11_swornAfter_7 : decode cX11_swornAfter 7 = .ok (.iconst 1, 1) := by decide +kernel
theorem dX11_swornAfter_8 : decode cX11_swornAfter 8 = .ok (.invokevirtual 382, 3) := by decide +kernel
theorem dX11_swornAfter_11 : decode cX11_swornAfter 11 = .ok (.ifCond .eq 5, 3) := by decide +kernel
theorem dX11_swornAfter_14 : decode cX11_swornAfter 14 = .ok (.iconst 0, 1) := by decide +kernel
theorem dX11_swornAfter_15 : decode cX11_swornAfter 15 = .ok (.ireturn, 1) := by decide +kernel
theorem dX11_swornAfter_16 : decode cX11_swornAfter 16 = .ok (.aload_n 0, 1) := by decide +kernel
theorem dX11_swornAfter_17 : decode cX11_swornAfter 17 = .ok (.invokevirtual 376, 3) := by decide +kernel
theorem dX11_swornAfter_20 : decode cX11_swornAfter 20 = .ok (.aload_n 0, 1) := by decide +kernel
theorem dX11_swornAfter_21 : decode cX11_swornAfter 21 = .ok (.iload_n 1, 1) := by decide +kernel
theorem dX11_swornAfter_22 : decode cX11_swornAfter 22 = .ok (.invokevirtual 327, 3) := by decide +kernel
theorem dX11_swornAfter_25 : decode cX11_swornAfter 25 = .ok (.istore_n 2, 1) := by decide +kernel
theorem dX11_swornAfter_26 : decode cX11_swornAfter 26 = .ok (.aload_n 0, 1) := by decide +kernel
theorem dX11_swornAfter_27 : decode cX11_swornAfter 27 = .ok (.aload_n 0, 1) := by decide +kernel
theorem dX11_swornAfter_28 : decode cX11_swornAfter 28 = .ok (.getfield 7, 3) := by decide +kernel
theorem dX11_swornAfter_31 : decode cX11_swornAfter 31 = .ok (.iconst 5, 1) := by decide +kernel
theorem dX11_swornAfter_32 : decode cX11_swornAfter 32 = .ok (.iaload, 1) := by decide +kernel
theorem dX11_swornAfter_33 : decode cX11_swornAfter 33 = .ok (.invokevirtual 379, 3) := by decide +kernel
theorem dX11_swornAfter_36 : decode cX11_swornAfter 36 = .ok (.ireturn, 1) := by decide +kernel
theorem dX11_hoursUntil_0 : decode cX11_hoursUntil 0 = .ok (.aload_n 0, 1) := by decide +kernel
theorem dX11_hoursUntil_1 : decode cX11_hoursUntil 1 = .ok (.invokevirtual 376, 3) := by decide +kernel
theorem dX11_hoursUntil_4 : decode cX11_hoursUntil 4 = .ok (.iconst 0, 1) := by decide +kernel
theorem dX11_hoursUntil_5 : decode cX11_hoursUntil 5 = .ok (.istore_n 3, 1) := by decide +kernel
theorem dX11_hoursUntil_6 : decode cX11_hoursUntil 6 = .ok (.iload_n 3, 1) := by decide +kernel
theorem dX11_hoursUntil_7 : decode cX11_hoursUntil 7 = .ok (.sipush 200, 3) := by decide +kernel
theorem dX11_hoursUntil_10 : decode cX11_hoursUntil 10 = .ok (.if_icmp .gt 29, 3) := by decide +kernel
theorem dX11_hoursUntil_13 : decode cX11_hoursUntil 13 = .ok (.aload_n 0, 1) := by decide +kernel
theorem dX11_hoursUntil_14 : decode cX11_hoursUntil 14 = .ok (.getfield 7, 3) := by decide +kernel
theorem dX11_hoursUntil_17 : decode cX11_hoursUntil 17 = .ok (.iload_n 1, 1) := by decide +kernel
theorem dX11_hoursUntil_18 : decode cX11_hoursUntil 18 = .ok (.iaload, 1) := by decide +kernel
theorem dX11_hoursUntil_19 : decode cX11_hoursUntil 19 = .ok (.iload_n 2, 1) := by decide +kernel
theorem dX11_hoursUntil_20 : decode cX11_hoursUntil 20 = .ok (.if_icmp .ne 9, 3) := by decide +kernel
theorem dX11_hoursUntil_23 : decode cX11_hoursUntil 23 = .ok (.aload_n 0, 1) := by decide +kernel
theorem dX11_hoursUntil_24 : decode cX11_hoursUntil 24 = .ok (.iload_n 3, 1) := by decide +kernel
theorem dX11_hoursUntil_25 : decode cX11_hoursUntil 25 = .ok (.invokevirtual 379, 3) := by decide +kernel
theorem dX11_hoursUntil_28 : decode cX11_hoursUntil 28 = .ok (.ireturn, 1) := by decide +kernel
theorem dX11_hoursUntil_29 : decode cX11_hoursUntil 29 = .ok (.aload_n 0, 1) := by decide +kernel
theorem dX11_hoursUntil_30 : decode cX11_hoursUntil 30 = .ok (.invokevirtual 155, 3) := by decide +kernel
theorem dX11_hoursUntil_33 : decode cX11_hoursUntil 33 = .ok (.iinc 3 1, 3) := by decide +kernel
theorem dX11_hoursUntil_36 : decode cX11_hoursUntil 36 = .ok (.goto (-30), 3) := by decide +kernel
theorem dX11_hoursUntil_39 : decode cX11_hoursUntil 39 = .ok (.aload_n 0, 1) := by decide +kernel
theorem dX11_hoursUntil_40 : decode cX11_hoursUntil 40 = .ok (.iconst (-1), 1) := by decide +kernel
theorem dX11_hoursUntil_41 : decode cX11_hoursUntil 41 = .ok (.invokevirtual 379, 3) := by decide +kernel
theorem dX11_hoursUntil_44 : decode cX11_hoursUntil 44 = .ok (.ireturn, 1) := by decide +kernel
theorem dX11_hoursUntilUnguarded_0 : decode cX11_hoursUntilUnguarded 0 = .ok (.aload_n 0, 1) := by decide +kernel
theorem dX11_hoursUntilUnguarded_1 : decode cX11_hoursUntilUnguarded 1 = .ok (.iconst 0, 1) := by decide +kernel
theorem dX11_hoursUntilUnguarded_2 : decode cX11_hoursUntilUnguarded 2 = .ok (.putfield 66, 3) := by decide +kernel
theorem dX11_hoursUntilUnguarded_5 : decode cX11_hoursUntilUnguarded 5 = .ok (.aload_n 0, 1) := by decide +kernel
theorem dX11_hoursUntilUnguarded_6 : decode cX11_hoursUntilUnguarded 6 = .ok (.iconst 5, 1) := by decide +kernel
theorem dX11_hoursUntilUnguarded_7 : decode cX11_hoursUntilUnguarded 7 = .ok (.iconst (-1), 1) := by decide +kernel
theorem dX11_hoursUntilUnguarded_8 : decode cX11_hoursUntilUnguarded 8 = .ok (.invokevirtual 388, 3) := by decide +kernel
theorem dX11_hoursUntilUnguarded_11 : decode cX11_hoursUntilUnguarded 11 = .ok (.ireturn, 1) := by decide +kernel
theorem dX11_hoursUntilEmpty_0 : decode cX11_hoursUntilEmpty 0 = .ok (.aload_n 0, 1) := by decide +kernel
theorem dX11_hoursUntilEmpty_1 : decode cX11_hoursUntilEmpty 1 = .ok (.iconst 0, 1) := by decide +kernel
theorem dX11_hoursUntilEmpty_2 : decode cX11_hoursUntilEmpty 2 = .ok (.putfield 66, 3) := by decide +kernel
theorem dX11_hoursUntilEmpty_5 : decode cX11_hoursUntilEmpty 5 = .ok (.aload_n 0, 1) := by decide +kernel
theorem dX11_hoursUntilEmpty_6 : decode cX11_hoursUntilEmpty 6 = .ok (.iload_n 1, 1) := by decide +kernel
theorem dX11_hoursUntilEmpty_7 : decode cX11_hoursUntilEmpty 7 = .ok (.invokevirtual 367, 3) := by decide +kernel
theorem dX11_hoursUntilEmpty_10 : decode cX11_hoursUntilEmpty 10 = .ok (.ifCond .eq 7, 3) := by decide +kernel
theorem dX11_hoursUntilEmpty_13 : decode cX11_hoursUntilEmpty 13 = .ok (.iconst 0, 1) := by decide +kernel
theorem dX11_hoursUntilEmpty_14 : decode cX11_hoursUntilEmpty 14 = .ok (.goto 19, 3) := by decide +kernel
theorem dX11_hoursUntilEmpty_17 : decode cX11_hoursUntilEmpty 17 = .ok (.aload_n 0, 1) := by decide +kernel
theorem dX11_hoursUntilEmpty_18 : decode cX11_hoursUntilEmpty 18 = .ok (.sipush 161, 3) := by decide +kernel
theorem dX11_hoursUntilEmpty_21 : decode cX11_hoursUntilEmpty 21 = .ok (.bipush 12, 2) := by decide +kernel
theorem dX11_hoursUntilEmpty_23 : decode cX11_hoursUntilEmpty 23 = .ok (.iload_n 1, 1) := by decide +kernel
theorem dX11_hoursUntilEmpty_24 : decode cX11_hoursUntilEmpty 24 = .ok (.imul, 1) := by decide +kernel
theorem dX11_hoursUntilEmpty_25 : decode cX11_hoursUntilEmpty 25 = .ok (.iadd, 1) := by decide +kernel
theorem dX11_hoursUntilEmpty_26 : decode cX11_hoursUntilEmpty 26 = .ok (.bipush 7, 2) := by decide +kernel
theorem dX11_hoursUntilEmpty_28 : decode cX11_hoursUntilEmpty 28 = .ok (.iadd, 1) := by decide +kernel
theorem dX11_hoursUntilEmpty_29 : decode cX11_hoursUntilEmpty 29 = .ok (.iconst 0, 1) := by decide +kernel
theorem dX11_hoursUntilEmpty_30 : decode cX11_hoursUntilEmpty 30 = .ok (.invokevirtual 388, 3) := by decide +kernel
theorem dX11_hoursUntilEmpty_33 : decode cX11_hoursUntilEmpty 33 = .ok (.ireturn, 1) := by decide +kernel
theorem dX11_caughtWithin_0 : decode cX11_caughtWithin 0 = .ok (.aload_n 0, 1) := by decide +kernel
theorem dX11_caughtWithin_1 : decode cX11_caughtWithin 1 = .ok (.iconst 0, 1) := by decide +kernel
theorem dX11_caughtWithin_2 : decode cX11_caughtWithin 2 = .ok (.putfield 66, 3) := by decide +kernel
theorem dX11_caughtWithin_5 : decode cX11_caughtWithin 5 = .ok (.aload_n 0, 1) := by decide +kernel
theorem dX11_caughtWithin_6 : decode cX11_caughtWithin 6 = .ok (.iload_n 1, 1) := by decide +kernel
theorem dX11_caughtWithin_7 : decode cX11_caughtWithin 7 = .ok (.iconst 1, 1) := by decide +kernel
theorem dX11_caughtWithin_8 : decode cX11_caughtWithin 8 = .ok (.invokevirtual 382, 3) := by decide +kernel
theorem dX11_caughtWithin_11 : decode cX11_caughtWithin 11 = .ok (.ifCond .eq 5, 3) := by decide +kernel
theorem dX11_caughtWithin_14 : decode cX11_caughtWithin 14 = .ok (.iconst 0, 1) := by decide +kernel
theorem dX11_caughtWithin_15 : decode cX11_caughtWithin 15 = .ok (.ireturn, 1) := by decide +kernel
theorem dX11_caughtWithin_16 : decode cX11_caughtWithin 16 = .ok (.aload_n 0, 1) := by decide +kernel
theorem dX11_caughtWithin_17 : decode cX11_caughtWithin 17 = .ok (.invokevirtual 376, 3) := by decide +kernel
theorem dX11_caughtWithin_20 : decode cX11_caughtWithin 20 = .ok (.aload_n 0, 1) := by decide +kernel
theorem dX11_caughtWithin_21 : decode cX11_caughtWithin 21 = .ok (.aload_n 0, 1) := by decide +kernel
theorem dX11_caughtWithin_22 : decode cX11_caughtWithin 22 = .ok (.iload_n 1, 1) := by decide +kernel
theorem dX11_caughtWithin_23 : decode cX11_caughtWithin 23 = .ok (.invokevirtual 327, 3) := by decide +kernel
theorem dX11_caughtWithin_26 : decode cX11_caughtWithin 26 = .ok (.invokevirtual 379, 3) := by decide +kernel
theorem dX11_caughtWithin_29 : decode cX11_caughtWithin 29 = .ok (.ireturn, 1) := by decide +kernel
theorem dX11_allGrainAfter_0 : decode cX11_allGrainAfter 0 = .ok (.aload_n 0, 1) := by decide +kernel
theorem dX11_allGrainAfter_1 : decode cX11_allGrainAfter 1 = .ok (.invokevirtual 376, 3) := by decide +kernel
theorem dX11_allGrainAfter_4 : decode cX11_allGrainAfter 4 = .ok (.aload_n 0, 1) := by decide +kernel
theorem dX11_allGrainAfter_5 : decode cX11_allGrainAfter 5 = .ok (.iload_n 1, 1) := by decide +kernel
theorem dX11_allGrainAfter_6 : decode cX11_allGrainAfter 6 = .ok (.invokevirtual 327, 3) := by decide +kernel
theorem dX11_allGrainAfter_9 : decode cX11_allGrainAfter 9 = .ok (.istore_n 2, 1) := by decide +kernel
theorem dX11_allGrainAfter_10 : decode cX11_allGrainAfter 10 = .ok (.aload_n 0, 1) := by decide +kernel
theorem dX11_allGrainAfter_11 : decode cX11_allGrainAfter 11 = .ok (.aload_n 0, 1) := by decide +kernel
theorem dX11_allGrainAfter_12 : decode cX11_allGrainAfter 12 = .ok (.sipush 161, 3) := by decide +kernel
theorem dX11_allGrainAfter_15 : decode cX11_allGrainAfter 15 = .ok (.iconst 1, 1) := by decide +kernel
theorem dX11_allGrainAfter_16 : decode cX11_allGrainAfter 16 = .ok (.bipush 7, 2) := by decide +kernel
theorem dX11_allGrainAfter_18 : decode cX11_allGrainAfter 18 = .ok (.invokevirtual 75, 3) := by decide +kernel
theorem dX11_allGrainAfter_21 : decode cX11_allGrainAfter 21 = .ok (.invokevirtual 379, 3) := by decide +kernel
theorem dX11_allGrainAfter_24 : decode cX11_allGrainAfter 24 = .ok (.ireturn, 1) := by decide +kernel
theorem dX11_grainWithChange_0 : decode cX11_grainWithChange 0 = .ok (.aload_n 0, 1) := by decide +kernel
theorem dX11_grainWithChange_1 : decode cX11_grainWithChange 1 = .ok (.iload_n 1, 1) := by decide +kernel
theorem dX11_grainWithChange_2 : decode cX11_grainWithChange 2 = .ok (.bipush 9, 2) := by decide +kernel
theorem dX11_grainWithChange_4 : decode cX11_grainWithChange 4 = .ok (.invokevirtual 99, 3) := by decide +kernel
theorem dX11_grainWithChange_7 : decode cX11_grainWithChange 7 = .ok (.istore_n 3, 1) := by decide +kernel
theorem dX11_grainWithChange_8 : decode cX11_grainWithChange 8 = .ok (.aload_n 0, 1) := by decide +kernel
theorem dX11_grainWithChange_9 : decode cX11_grainWithChange 9 = .ok (.iload_n 1, 1) := by decide +kernel
theorem dX11_grainWithChange_10 : decode cX11_grainWithChange 10 = .ok (.bipush 9, 2) := by decide +kernel
theorem dX11_grainWithChange_12 : decode cX11_grainWithChange 12 = .ok (.iconst 1, 1) := by decide +kernel
theorem dX11_grainWithChange_13 : decode cX11_grainWithChange 13 = .ok (.iload_n 3, 1) := by decide +kernel
theorem dX11_grainWithChange_14 : decode cX11_grainWithChange 14 = .ok (.isub, 1) := by decide +kernel
theorem dX11_grainWithChange_15 : decode cX11_grainWithChange 15 = .ok (.invokevirtual 72, 3) := by decide +kernel
theorem dX11_grainWithChange_18 : decode cX11_grainWithChange 18 = .ok (.aload_n 0, 1) := by decide +kernel
theorem dX11_grainWithChange_19 : decode cX11_grainWithChange 19 = .ok (.iload_n 2, 1) := by decide +kernel
theorem dX11_grainWithChange_20 : decode cX11_grainWithChange 20 = .ok (.invokevirtual 391, 3) := by decide +kernel
theorem dX11_grainWithChange_23 : decode cX11_grainWithChange 23 = .ok (.istore 4, 2) := by decide +kernel
theorem dX11_grainWithChange_25 : decode cX11_grainWithChange 25 = .ok (.aload_n 0, 1) := by decide +kernel
theorem dX11_grainWithChange_26 : decode cX11_grainWithChange 26 = .ok (.iload_n 1, 1) := by decide +kernel
theorem dX11_grainWithChange_27 : decode cX11_grainWithChange 27 = .ok (.bipush 9, 2) := by decide +kernel
theorem dX11_grainWithChange_29 : decode cX11_grainWithChange 29 = .ok (.iload_n 3, 1) := by decide +kernel
theorem dX11_grainWithChange_30 : decode cX11_grainWithChange 30 = .ok (.invokevirtual 72, 3) := by decide +kernel
theorem dX11_grainWithChange_33 : decode cX11_grainWithChange 33 = .ok (.iload 4, 2) := by decide +kernel
theorem dX11_grainWithChange_35 : decode cX11_grainWithChange 35 = .ok (.ireturn, 1) := by decide +kernel
theorem dX11_bestFlapToChange_0 : decode cX11_bestFlapToChange 0 = .ok (.aload_n 0, 1) := by decide +kernel
theorem dX11_bestFlapToChange_1 : decode cX11_bestFlapToChange 1 = .ok (.iconst 0, 1) := by decide +kernel
theorem dX11_bestFlapToChange_2 : decode cX11_bestFlapToChange 2 = .ok (.putfield 66, 3) := by decide +kernel
theorem dX11_bestFlapToChange_5 : decode cX11_bestFlapToChange 5 = .ok (.aload_n 0, 1) := by decide +kernel
theorem dX11_bestFlapToChange_6 : decode cX11_bestFlapToChange 6 = .ok (.iload_n 1, 1) := by decide +kernel
theorem dX11_bestFlapToChange_7 : decode cX11_bestFlapToChange 7 = .ok (.iconst 1, 1) := by decide +kernel
theorem dX11_bestFlapToChange_8 : decode cX11_bestFlapToChange 8 = .ok (.invokevirtual 382, 3) := by decide +kernel
theorem dX11_bestFlapToChange_11 : decode cX11_bestFlapToChange 11 = .ok (.ifCond .eq 5, 3) := by decide +kernel
theorem dX11_bestFlapToChange_14 : decode cX11_bestFlapToChange 14 = .ok (.iconst 0, 1) := by decide +kernel
theorem dX11_bestFlapToChange_15 : decode cX11_bestFlapToChange 15 = .ok (.ireturn, 1) := by decide +kernel
theorem dX11_bestFlapToChange_16 : decode cX11_bestFlapToChange 16 = .ok (.iconst (-1), 1) := by decide +kernel
theorem dX11_bestFlapToChange_17 : decode cX11_bestFlapToChange 17 = .ok (.istore_n 2, 1) := by decide +kernel
theorem dX11_bestFlapToChange_18 : decode cX11_bestFlapToChange 18 = .ok (.aload_n 0, 1) := by decide +kernel
theorem dX11_bestFlapToChange_19 : decode cX11_bestFlapToChange 19 = .ok (.iload_n 1, 1) := by decide +kernel
theorem dX11_bestFlapToChange_20 : decode cX11_bestFlapToChange 20 = .ok (.invokevirtual 391, 3) := by decide +kernel
theorem dX11_bestFlapToChange_23 : decode cX11_bestFlapToChange 23 = .ok (.istore_n 3, 1) := by decide +kernel
theorem dX11_bestFlapToChange_24 : decode cX11_bestFlapToChange 24 = .ok (.iconst 0, 1) := by decide +kernel
theorem dX11_bestFlapToChange_25 : decode cX11_bestFlapToChange 25 = .ok (.istore 4, 2) := by decide +kernel
theorem dX11_bestFlapToChange_27 : decode cX11_bestFlapToChange 27 = .ok (.iload 4, 2) := by decide +kernel
theorem dX11_bestFlapToChange_29 : decode cX11_bestFlapToChange 29 = .ok (.aload_n 0, 1) := by decide +kernel
theorem dX11_bestFlapToChange_30 : decode cX11_bestFlapToChange 30 = .ok (.getfield 7, 3) := by decide +kernel
theorem dX11_bestFlapToChange_33 : decode cX11_bestFlapToChange 33 = .ok (.iconst 1, 1) := by decide +kernel
theorem dX11_bestFlapToChange_34 : decode cX11_bestFlapToChange 34 = .ok (.iaload, 1) := by decide +kernel
theorem dX11_bestFlapToChange_35 : decode cX11_bestFlapToChange 35 = .ok (.if_icmp .ge 34, 3) := by decide +kernel
theorem dX11_bestFlapToChange_38 : decode cX11_bestFlapToChange 38 = .ok (.aload_n 0, 1) := by decide +kernel
theorem dX11_bestFlapToChange_39 : decode cX11_bestFlapToChange 39 = .ok (.iload 4, 2) := by decide +kernel
theorem dX11_bestFlapToChange_41 : decode cX11_bestFlapToChange 41 = .ok (.iload_n 1, 1) := by decide +kernel
theorem dX11_bestFlapToChange_42 : decode cX11_bestFlapToChange 42 = .ok (.invokevirtual 394, 3) := by decide +kernel
theorem dX11_bestFlapToChange_45 : decode cX11_bestFlapToChange 45 = .ok (.istore 5, 2) := by decide +kernel
theorem dX11_bestFlapToChange_47 : decode cX11_bestFlapToChange 47 = .ok (.iload 5, 2) := by decide +kernel
theorem dX11_bestFlapToChange_49 : decode cX11_bestFlapToChange 49 = .ok (.iload_n 3, 1) := by decide +kernel
theorem dX11_bestFlapToChange_50 : decode cX11_bestFlapToChange 50 = .ok (.if_icmp .le 6, 3) := by decide +kernel
theorem dX11_bestFlapToChange_53 : decode cX11_bestFlapToChange 53 = .ok (.iload 4, 2) := by decide +kernel
theorem dX11_bestFlapToChange_55 : decode cX11_bestFlapToChange 55 = .ok (.istore_n 2, 1) := by decide +kernel
theorem dX11_bestFlapToChange_56 : decode cX11_bestFlapToChange 56 = .ok (.iload_n 3, 1) := by decide +kernel
theorem dX11_bestFlapToChange_57 : decode cX11_bestFlapToChange 57 = .ok (.iload 5, 2) := by decide +kernel
theorem dX11_bestFlapToChange_59 : decode cX11_bestFlapToChange 59 = .ok (.invokestatic 94, 3) := by decide +kernel
theorem dX11_bestFlapToChange_62 : decode cX11_bestFlapToChange 62 = .ok (.istore_n 3, 1) := by decide +kernel
theorem dX11_bestFlapToChange_63 : decode cX11_bestFlapToChange 63 = .ok (.iinc 4 1, 3) := by decide +kernel
theorem dX11_bestFlapToChange_66 : decode cX11_bestFlapToChange 66 = .ok (.goto (-39), 3) := by decide +kernel
theorem dX11_bestFlapToChange_69 : decode cX11_bestFlapToChange 69 = .ok (.iload_n 2, 1) := by decide +kernel
theorem dX11_bestFlapToChange_70 : decode cX11_bestFlapToChange 70 = .ok (.ireturn, 1) := by decide +kernel
theorem dX11_miceBackwards_0 : decode cX11_miceBackwards 0 = .ok (.iconst 0, 1) := by decide +kernel
theorem dX11_miceBackwards_1 : decode cX11_miceBackwards 1 = .ok (.istore_n 1, 1) := by decide +kernel
theorem dX11_miceBackwards_2 : decode cX11_miceBackwards 2 = .ok (.aload_n 0, 1) := by decide +kernel
theorem dX11_miceBackwards_3 : decode cX11_miceBackwards 3 = .ok (.getfield 7, 3) := by decide +kernel
theorem dX11_miceBackwards_6 : decode cX11_miceBackwards 6 = .ok (.iconst 1, 1) := by decide +kernel
theorem dX11_miceBackwards_7 : decode cX11_miceBackwards 7 = .ok (.iaload, 1) := by decide +kernel
theorem dX11_miceBackwards_8 : decode cX11_miceBackwards 8 = .ok (.iconst 1, 1) := by decide +kernel
theorem dX11_miceBackwards_9 : decode cX11_miceBackwards 9 = .ok (.isub, 1) := by decide +kernel
theorem dX11_miceBackwards_10 : decode cX11_miceBackwards 10 = .ok (.istore_n 2, 1) := by decide +kernel
theorem dX11_miceBackwards_11 : decode cX11_miceBackwards 11 = .ok (.iload_n 2, 1) := by decide +kernel
theorem dX11_miceBackwards_12 : decode cX11_miceBackwards 12 = .ok (.ifCond .lt 19, 3) := by decide +kernel
theorem dX11_miceBackwards_15 : decode cX11_miceBackwards 15 = .ok (.iload_n 1, 1) := by decide +kernel
theorem dX11_miceBackwards_16 : decode cX11_miceBackwards 16 = .ok (.aload_n 0, 1) := by decide +kernel
theorem dX11_miceBackwards_17 : decode cX11_miceBackwards 17 = .ok (.iload_n 2, 1) := by decide +kernel
theorem dX11_miceBackwards_18 : decode cX11_miceBackwards 18 = .ok (.bipush 8, 2) := by decide +kernel
theorem dX11_miceBackwards_20 : decode cX11_miceBackwards 20 = .ok (.invokevirtual 99, 3) := by decide +kernel
theorem dX11_miceBackwards_23 : decode cX11_miceBackwards 23 = .ok (.iadd, 1) := by decide +kernel
theorem dX11_miceBackwards_24 : decode cX11_miceBackwards 24 = .ok (.istore_n 1, 1) := by decide +kernel
theorem dX11_miceBackwards_25 : decode cX11_miceBackwards 25 = .ok (.iinc 2 (-1), 3) := by decide +kernel
theorem dX11_miceBackwards_28 : decode cX11_miceBackwards 28 = .ok (.goto (-17), 3) := by decide +kernel
theorem dX11_miceBackwards_31 : decode cX11_miceBackwards 31 = .ok (.iload_n 1, 1) := by decide +kernel
theorem dX11_miceBackwards_32 : decode cX11_miceBackwards 32 = .ok (.ireturn, 1) := by decide +kernel
theorem dX11_isConsistent_0 : decode cX11_isConsistent 0 = .ok (.aload_n 0, 1) := by decide +kernel
theorem dX11_isConsistent_1 : decode cX11_isConsistent 1 = .ok (.iconst 0, 1) := by decide +kernel
theorem dX11_isConsistent_2 : decode cX11_isConsistent 2 = .ok (.putfield 66, 3) := by decide +kernel
theorem dX11_isConsistent_5 : decode cX11_isConsistent 5 = .ok (.aload_n 0, 1) := by decide +kernel
theorem dX11_isConsistent_6 : decode cX11_isConsistent 6 = .ok (.sipush 161, 3) := by decide +kernel
theorem dX11_isConsistent_9 : decode cX11_isConsistent 9 = .ok (.iconst 1, 1) := by decide +kernel
theorem dX11_isConsistent_10 : decode cX11_isConsistent 10 = .ok (.bipush 8, 2) := by decide +kernel
theorem dX11_isConsistent_12 : decode cX11_isConsistent 12 = .ok (.invokevirtual 75, 3) := by decide +kernel
theorem dX11_isConsistent_15 : decode cX11_isConsistent 15 = .ok (.istore_n 1, 1) := by decide +kernel
theorem dX11_isConsistent_16 : decode cX11_isConsistent 16 = .ok (.iload_n 1, 1) := by decide +kernel
theorem dX11_isConsistent_17 : decode cX11_isConsistent 17 = .ok (.aload_n 0, 1) := by decide +kernel
theorem dX11_isConsistent_18 : decode cX11_isConsistent 18 = .ok (.getfield 7, 3) := by decide +kernel
theorem dX11_isConsistent_21 : decode cX11_isConsistent 21 = .ok (.bipush 14, 2) := by decide +kernel
theorem dX11_isConsistent_23 : decode cX11_isConsistent 23 = .ok (.iaload, 1) := by decide +kernel
theorem dX11_isConsistent_24 : decode cX11_isConsistent 24 = .ok (.aload_n 0, 1) := by decide +kernel
theorem dX11_isConsistent_25 : decode cX11_isConsistent 25 = .ok (.getfield 7, 3) := by decide +kernel
theorem dX11_isConsistent_28 : decode cX11_isConsistent 28 = .ok (.bipush 10, 2) := by decide +kernel
theorem dX11_isConsistent_30 : decode cX11_isConsistent 30 = .ok (.iaload, 1) := by decide +kernel
theorem dX11_isConsistent_31 : decode cX11_isConsistent 31 = .ok (.iadd, 1) := by decide +kernel
theorem dX11_isConsistent_32 : decode cX11_isConsistent 32 = .ok (.aload_n 0, 1) := by decide +kernel
theorem dX11_isConsistent_33 : decode cX11_isConsistent 33 = .ok (.getfield 7, 3) := by decide +kernel
theorem dX11_isConsistent_36 : decode cX11_isConsistent 36 = .ok (.bipush 8, 2) := by decide +kernel
theorem dX11_isConsistent_38 : decode cX11_isConsistent 38 = .ok (.iaload, 1) := by decide +kernel
theorem dX11_isConsistent_39 : decode cX11_isConsistent 39 = .ok (.isub, 1) := by decide +kernel
theorem dX11_isConsistent_40 : decode cX11_isConsistent 40 = .ok (.aload_n 0, 1) := by decide +kernel
theorem dX11_isConsistent_41 : decode cX11_isConsistent 41 = .ok (.getfield 7, 3) := by decide +kernel
theorem dX11_isConsistent_44 : decode cX11_isConsistent 44 = .ok (.bipush 11, 2) := by decide +kernel
theorem dX11_isConsistent_46 : decode cX11_isConsistent 46 = .ok (.iaload, 1) := by decide +kernel
theorem dX11_isConsistent_47 : decode cX11_isConsistent 47 = .ok (.isub, 1) := by decide +kernel
theorem dX11_isConsistent_48 : decode cX11_isConsistent 48 = .ok (.if_icmp .ne 15, 3) := by decide +kernel
theorem dX11_isConsistent_51 : decode cX11_isConsistent 51 = .ok (.iload_n 1, 1) := by decide +kernel
theorem dX11_isConsistent_52 : decode cX11_isConsistent 52 = .ok (.aload_n 0, 1) := by decide +kernel
theorem dX11_isConsistent_53 : decode cX11_isConsistent 53 = .ok (.invokevirtual 397, 3) := by decide +kernel
theorem dX11_isConsistent_56 : decode cX11_isConsistent 56 = .ok (.if_icmp .ne 7, 3) := by decide +kernel
theorem dX11_isConsistent_59 : decode cX11_isConsistent 59 = .ok (.iconst 1, 1) := by decide +kernel
theorem dX11_isConsistent_60 : decode cX11_isConsistent 60 = .ok (.goto 4, 3) := by decide +kernel
theorem dX11_isConsistent_63 : decode cX11_isConsistent 63 = .ok (.iconst 0, 1) := by decide +kernel
theorem dX11_isConsistent_64 : decode cX11_isConsistent 64 = .ok (.istore_n 2, 1) := by decide +kernel
theorem dX11_isConsistent_65 : decode cX11_isConsistent 65 = .ok (.aload_n 0, 1) := by decide +kernel
theorem dX11_isConsistent_66 : decode cX11_isConsistent 66 = .ok (.sipush 161, 3) := by decide +kernel
theorem dX11_isConsistent_69 : decode cX11_isConsistent 69 = .ok (.iconst 1, 1) := by decide +kernel
theorem dX11_isConsistent_70 : decode cX11_isConsistent 70 = .ok (.bipush 7, 2) := by decide +kernel
theorem dX11_isConsistent_72 : decode cX11_isConsistent 72 = .ok (.invokevirtual 75, 3) := by decide +kernel
theorem dX11_isConsistent_75 : decode cX11_isConsistent 75 = .ok (.aload_n 0, 1) := by decide +kernel
theorem dX11_isConsistent_76 : decode cX11_isConsistent 76 = .ok (.getfield 7, 3) := by decide +kernel
theorem dX11_isConsistent_79 : decode cX11_isConsistent 79 = .ok (.bipush 15, 2) := by decide +kernel
theorem dX11_isConsistent_81 : decode cX11_isConsistent 81 = .ok (.iaload, 1) := by decide +kernel
theorem dX11_isConsistent_82 : decode cX11_isConsistent 82 = .ok (.aload_n 0, 1) := by decide +kernel
theorem dX11_isConsistent_83 : decode cX11_isConsistent 83 = .ok (.getfield 7, 3) := by decide +kernel
theorem dX11_isConsistent_86 : decode cX11_isConsistent 86 = .ok (.bipush 9, 2) := by decide +kernel
theorem dX11_isConsistent_88 : decode cX11_isConsistent 88 = .ok (.iaload, 1) := by decide +kernel
theorem dX11_isConsistent_89 : decode cX11_isConsistent 89 = .ok (.isub, 1) := by decide +kernel
theorem dX11_isConsistent_90 : decode cX11_isConsistent 90 = .ok (.if_icmp .ne 27, 3) := by decide +kernel
theorem dX11_isConsistent_93 : decode cX11_isConsistent 93 = .ok (.aload_n 0, 1) := by decide +kernel
theorem dX11_isConsistent_94 : decode cX11_isConsistent 94 = .ok (.sipush 161, 3) := by decide +kernel
theorem dX11_isConsistent_97 : decode cX11_isConsistent 97 = .ok (.iconst 1, 1) := by decide +kernel
theorem dX11_isConsistent_98 : decode cX11_isConsistent 98 = .ok (.bipush 10, 2) := by decide +kernel
theorem dX11_isConsistent_100 : decode cX11_isConsistent 100 = .ok (.invokevirtual 75, 3) := by decide +kernel
theorem dX11_isConsistent_103 : decode cX11_isConsistent 103 = .ok (.aload_n 0, 1) := by decide +kernel
theorem dX11_isConsistent_104 : decode cX11_isConsistent 104 = .ok (.getfield 7, 3) := by decide +kernel
theorem dX11_isConsistent_107 : decode cX11_isConsistent 107 = .ok (.bipush 9, 2) := by decide +kernel
theorem dX11_isConsistent_109 : decode cX11_isConsistent 109 = .ok (.iaload, 1) := by decide +kernel
theorem dX11_isConsistent_110 : decode cX11_isConsistent 110 = .ok (.if_icmp .ne 7, 3) := by decide +kernel
theorem dX11_isConsistent_113 : decode cX11_isConsistent 113 = .ok (.iconst 1, 1) := by decide +kernel
theorem dX11_isConsistent_114 : decode cX11_isConsistent 114 = .ok (.goto 4, 3) := by decide +kernel
theorem dX11_isConsistent_117 : decode cX11_isConsistent 117 = .ok (.iconst 0, 1) := by decide +kernel
theorem dX11_isConsistent_118 : decode cX11_isConsistent 118 = .ok (.istore_n 3, 1) := by decide +kernel
theorem dX11_isConsistent_119 : decode cX11_isConsistent 119 = .ok (.iload_n 2, 1) := by decide +kernel
theorem dX11_isConsistent_120 : decode cX11_isConsistent 120 = .ok (.ifCond .eq 49, 3) := by decide +kernel
theorem dX11_isConsistent_123 : decode cX11_isConsistent 123 = .ok (.iload_n 3, 1) := by decide +kernel
theorem dX11_isConsistent_124 : decode cX11_isConsistent 124 = .ok (.ifCond .eq 45, 3) := by decide +kernel
theorem dX11_isConsistent_127 : decode cX11_isConsistent 127 = .ok (.aload_n 0, 1) := by decide +kernel
theorem dX11_isConsistent_128 : decode cX11_isConsistent 128 = .ok (.bipush 65, 2) := by decide +kernel
theorem dX11_isConsistent_130 : decode cX11_isConsistent 130 = .ok (.iconst 0, 1) := by decide +kernel
theorem dX11_isConsistent_131 : decode cX11_isConsistent 131 = .ok (.bipush 10, 2) := by decide +kernel
theorem dX11_isConsistent_133 : decode cX11_isConsistent 133 = .ok (.invokevirtual 75, 3) := by decide +kernel
theorem dX11_isConsistent_136 : decode cX11_isConsistent 136 = .ok (.aload_n 0, 1) := by decide +kernel
theorem dX11_isConsistent_137 : decode cX11_isConsistent 137 = .ok (.getfield 7, 3) := by decide +kernel
theorem dX11_isConsistent_140 : decode cX11_isConsistent 140 = .ok (.bipush 8, 2) := by decide +kernel
theorem dX11_isConsistent_142 : decode cX11_isConsistent 142 = .ok (.iaload, 1) := by decide +kernel
theorem dX11_isConsistent_143 : decode cX11_isConsistent 143 = .ok (.if_icmp .ne 26, 3) := by decide +kernel
theorem dX11_isConsistent_146 : decode cX11_isConsistent 146 = .ok (.aload_n 0, 1) := by decide +kernel
theorem dX11_isConsistent_147 : decode cX11_isConsistent 147 = .ok (.bipush 65, 2) := by decide +kernel
theorem dX11_isConsistent_149 : decode cX11_isConsistent 149 = .ok (.iconst 0, 1) := by decide +kernel
theorem dX11_isConsistent_150 : decode cX11_isConsistent 150 = .ok (.bipush 11, 2) := by decide +kernel
theorem dX11_isConsistent_152 : decode cX11_isConsistent 152 = .ok (.invokevirtual 75, 3) := by decide +kernel
theorem dX11_isConsistent_155 : decode cX11_isConsistent 155 = .ok (.aload_n 0, 1) := by decide +kernel
theorem dX11_isConsistent_156 : decode cX11_isConsistent 156 = .ok (.getfield 7, 3) := by decide +kernel
theorem dX11_isConsistent_159 : decode cX11_isConsistent 159 = .ok (.bipush 12, 2) := by decide +kernel
theorem dX11_isConsistent_161 : decode cX11_isConsistent 161 = .ok (.iaload, 1) := by decide +kernel
theorem dX11_isConsistent_162 : decode cX11_isConsistent 162 = .ok (.if_icmp .ne 7, 3) := by decide +kernel
theorem dX11_isConsistent_165 : decode cX11_isConsistent 165 = .ok (.iconst 1, 1) := by decide +kernel
theorem dX11_isConsistent_166 : decode cX11_isConsistent 166 = .ok (.goto 4, 3) := by decide +kernel
theorem dX11_isConsistent_169 : decode cX11_isConsistent 169 = .ok (.iconst 0, 1) := by decide +kernel
theorem dX11_isConsistent_170 : decode cX11_isConsistent 170 = .ok (.ireturn, 1) := by decide +kernel
theorem dX11_averageTiredness_0 : decode cX11_averageTiredness 0 = .ok (.aload_n 0, 1) := by decide +kernel
theorem dX11_averageTiredness_1 : decode cX11_averageTiredness 1 = .ok (.iconst 0, 1) := by decide +kernel
theorem dX11_averageTiredness_2 : decode cX11_averageTiredness 2 = .ok (.putfield 66, 3) := by decide +kernel
theorem dX11_averageTiredness_5 : decode cX11_averageTiredness 5 = .ok (.aload_n 0, 1) := by decide +kernel
theorem dX11_averageTiredness_6 : decode cX11_averageTiredness 6 = .ok (.bipush 65, 2) := by decide +kernel
theorem dX11_averageTiredness_8 : decode cX11_averageTiredness 8 = .ok (.iconst 0, 1) := by decide +kernel
theorem dX11_averageTiredness_9 : decode cX11_averageTiredness 9 = .ok (.bipush 9, 2) := by decide +kernel
theorem dX11_averageTiredness_11 : decode cX11_averageTiredness 11 = .ok (.invokevirtual 75, 3) := by decide +kernel
theorem dX11_averageTiredness_14 : decode cX11_averageTiredness 14 = .ok (.i2d, 1) := by decide +kernel
theorem dX11_averageTiredness_15 : decode cX11_averageTiredness 15 = .ok (.aload_n 0, 1) := by decide +kernel
theorem dX11_averageTiredness_16 : decode cX11_averageTiredness 16 = .ok (.getfield 7, 3) := by decide +kernel
theorem dX11_averageTiredness_19 : decode cX11_averageTiredness 19 = .ok (.iconst 0, 1) := by decide +kernel
theorem dX11_averageTiredness_20 : decode cX11_averageTiredness 20 = .ok (.iaload, 1) := by decide +kernel
theorem dX11_averageTiredness_21 : decode cX11_averageTiredness 21 = .ok (.i2d, 1) := by decide +kernel
theorem dX11_averageTiredness_22 : decode cX11_averageTiredness 22 = .ok (.ddiv, 1) := by decide +kernel
theorem dX11_averageTiredness_23 : decode cX11_averageTiredness 23 = .ok (.dreturn, 1) := by decide +kernel
theorem dX11_shareOf_0 : decode cX11_shareOf 0 = .ok (.aload_n 0, 1) := by decide +kernel
theorem dX11_shareOf_1 : decode cX11_shareOf 1 = .ok (.iconst 0, 1) := by decide +kernel
theorem dX11_shareOf_2 : decode cX11_shareOf 2 = .ok (.putfield 66, 3) := by decide +kernel
theorem dX11_shareOf_5 : decode cX11_shareOf 5 = .ok (.aload_n 0, 1) := by decide +kernel
theorem dX11_shareOf_6 : decode cX11_shareOf 6 = .ok (.iload_n 1, 1) := by decide +kernel
theorem dX11_shareOf_7 : decode cX11_shareOf 7 = .ok (.invokevirtual 361, 3) := by decide +kernel
theorem dX11_shareOf_10 : decode cX11_shareOf 10 = .ok (.ifCond .ne 13, 3) := by decide +kernel
theorem dX11_shareOf_13 : decode cX11_shareOf 13 = .ok (.aload_n 0, 1) := by decide +kernel
theorem dX11_shareOf_14 : decode cX11_shareOf 14 = .ok (.getfield 7, 3) := by decide +kernel
theorem dX11_shareOf_17 : decode cX11_shareOf 17 = .ok (.bipush 8, 2) := by decide +kernel
theorem dX11_shareOf_19 : decode cX11_shareOf 19 = .ok (.iaload, 1) := by decide +kernel
theorem dX11_shareOf_20 : decode cX11_shareOf 20 = .ok (.ifCond .ne 5, 3) := by decide +kernel
theorem dX11_shareOf_23 : decode cX11_shareOf 23 = .ok (.fconst 0, 1) := by decide +kernel
theorem dX11_shareOf_24 : decode cX11_shareOf 24 = .ok (.freturn, 1) := by decide +kernel
theorem dX11_shareOf_25 : decode cX11_shareOf 25 = .ok (.aload_n 0, 1) := by decide +kernel
theorem dX11_shareOf_26 : decode cX11_shareOf 26 = .ok (.iload_n 1, 1) := by decide +kernel
theorem dX11_shareOf_27 : decode cX11_shareOf 27 = .ok (.bipush 10, 2) := by decide +kernel
theorem dX11_shareOf_29 : decode cX11_shareOf 29 = .ok (.invokevirtual 90, 3) := by decide +kernel
theorem dX11_shareOf_32 : decode cX11_shareOf 32 = .ok (.i2f, 1) := by decide +kernel
theorem dX11_shareOf_33 : decode cX11_shareOf 33 = .ok (.aload_n 0, 1) := by decide +kernel
theorem dX11_shareOf_34 : decode cX11_shareOf 34 = .ok (.getfield 7, 3) := by decide +kernel
theorem dX11_shareOf_37 : decode cX11_shareOf 37 = .ok (.bipush 8, 2) := by decide +kernel
theorem dX11_shareOf_39 : decode cX11_shareOf 39 = .ok (.iaload, 1) := by decide +kernel
theorem dX11_shareOf_40 : decode cX11_shareOf 40 = .ok (.i2f, 1) := by decide +kernel
theorem dX11_shareOf_41 : decode cX11_shareOf 41 = .ok (.fdiv, 1) := by decide +kernel
theorem dX11_shareOf_42 : decode cX11_shareOf 42 = .ok (.freturn, 1) := by decide +kernel
theorem dX11_letPass_0 : decode cX11_letPass 0 = .ok (.aload_n 0, 1) := by decide +kernel
theorem dX11_letPass_1 : decode cX11_letPass 1 = .ok (.iconst 0, 1) := by decide +kernel
theorem dX11_letPass_2 : decode cX11_letPass 2 = .ok (.putfield 66, 3) := by decide +kernel
theorem dX11_letPass_5 : decode cX11_letPass 5 = .ok (.aload_n 0, 1) := by decide +kernel
theorem dX11_letPass_6 : decode cX11_letPass 6 = .ok (.iload_n 1, 1) := by decide +kernel
theorem dX11_letPass_7 : decode cX11_letPass 7 = .ok (.iconst 1, 1) := by decide +kernel
theorem dX11_letPass_8 : decode cX11_letPass 8 = .ok (.bipush 99, 2) := by decide +kernel
theorem dX11_letPass_10 : decode cX11_letPass 10 = .ok (.invokestatic 174, 3) := by decide +kernel
theorem dX11_letPass_13 : decode cX11_letPass 13 = .ok (.ifCond .ne 7, 3) := by decide +kernel
theorem dX11_letPass_16 : decode cX11_letPass 16 = .ok (.iconst 1, 1) := by decide +kernel
theorem dX11_letPass_17 : decode cX11_letPass 17 = .ok (.goto 4, 3) := by decide +kernel
theorem dX11_letPass_20 : decode cX11_letPass 20 = .ok (.iconst 0, 1) := by decide +kernel
theorem dX11_letPass_21 : decode cX11_letPass 21 = .ok (.iconst 1, 1) := by decide +kernel
theorem dX11_letPass_22 : decode cX11_letPass 22 = .ok (.invokevirtual 357, 3) := by decide +kernel
theorem dX11_letPass_25 : decode cX11_letPass 25 = .ok (.ifCond .ne 30, 3) := by decide +kernel
theorem dX11_letPass_28 : decode cX11_letPass 28 = .ok (.aload_n 0, 1) := by decide +kernel
theorem dX11_letPass_29 : decode cX11_letPass 29 = .ok (.aload_n 0, 1) := by decide +kernel
theorem dX11_letPass_30 : decode cX11_letPass 30 = .ok (.getfield 7, 3) := by decide +kernel
theorem dX11_letPass_33 : decode cX11_letPass 33 = .ok (.iconst 3, 1) := by decide +kernel
theorem dX11_letPass_34 : decode cX11_letPass 34 = .ok (.iaload, 1) := by decide +kernel
theorem dX11_letPass_35 : decode cX11_letPass 35 = .ok (.iload_n 1, 1) := by decide +kernel
theorem dX11_letPass_36 : decode cX11_letPass 36 = .ok (.iadd, 1) := by decide +kernel
theorem dX11_letPass_37 : decode cX11_letPass 37 = .ok (.sipush 9999, 3) := by decide +kernel
theorem dX11_letPass_40 : decode cX11_letPass 40 = .ok (.if_icmp .le 7, 3) := by decide +kernel
theorem dX11_letPass_43 : decode cX11_letPass 43 = .ok (.iconst 1, 1) := by decide +kernel
theorem dX11_letPass_44 : decode cX11_letPass 44 = .ok (.goto 4, 3) := by decide +kernel
theorem dX11_letPass_47 : decode cX11_letPass 47 = .ok (.iconst 0, 1) := by decide +kernel
theorem dX11_letPass_48 : decode cX11_letPass 48 = .ok (.iconst 2, 1) := by decide +kernel
theorem dX11_letPass_49 : decode cX11_letPass 49 = .ok (.invokevirtual 357, 3) := by decide +kernel
theorem dX11_letPass_52 : decode cX11_letPass 52 = .ok (.ifCond .eq 5, 3) := by decide +kernel
theorem dX11_letPass_55 : decode cX11_letPass 55 = .ok (.iconst 0, 1) := by decide +kernel
theorem dX11_letPass_56 : decode cX11_letPass 56 = .ok (.ireturn, 1) := by decide +kernel
theorem dX11_letPass_57 : decode cX11_letPass 57 = .ok (.aload_n 0, 1) := by decide +kernel
theorem dX11_letPass_58 : decode cX11_letPass 58 = .ok (.invokevirtual 351, 3) := by decide +kernel
theorem dX11_letPass_61 : decode cX11_letPass 61 = .ok (.aload_n 0, 1) := by decide +kernel
theorem dX11_letPass_62 : decode cX11_letPass 62 = .ok (.iload_n 1, 1) := by decide +kernel
theorem dX11_letPass_63 : decode cX11_letPass 63 = .ok (.invokevirtual 327, 3) := by decide +kernel
theorem dX11_letPass_66 : decode cX11_letPass 66 = .ok (.ireturn, 1) := by decide +kernel
theorem dX11_openFlap_0 : decode cX11_openFlap 0 = .ok (.aload_n 0, 1) := by decide +kernel
theorem dX11_openFlap_1 : decode cX11_openFlap 1 = .ok (.iconst 0, 1) := by decide +kernel
theorem dX11_openFlap_2 : decode cX11_openFlap 2 = .ok (.putfield 66, 3) := by decide +kernel
theorem dX11_openFlap_5 : decode cX11_openFlap 5 = .ok (.aload_n 0, 1) := by decide +kernel
theorem dX11_openFlap_6 : decode cX11_openFlap 6 = .ok (.iload_n 1, 1) := by decide +kernel
theorem dX11_openFlap_7 : decode cX11_openFlap 7 = .ok (.invokevirtual 367, 3) := by decide +kernel
theorem dX11_openFlap_10 : decode cX11_openFlap 10 = .ok (.ifCond .ne 16, 3) := by decide +kernel
theorem dX11_openFlap_13 : decode cX11_openFlap 13 = .ok (.aload_n 0, 1) := by decide +kernel
theorem dX11_openFlap_14 : decode cX11_openFlap 14 = .ok (.aload_n 0, 1) := by decide +kernel
theorem dX11_openFlap_15 : decode cX11_openFlap 15 = .ok (.iload_n 1, 1) := by decide +kernel
theorem dX11_openFlap_16 : decode cX11_openFlap 16 = .ok (.invokevirtual 102, 3) := by decide +kernel
theorem dX11_openFlap_19 : decode cX11_openFlap 19 = .ok (.iconst 2, 1) := by decide +kernel
theorem dX11_openFlap_20 : decode cX11_openFlap 20 = .ok (.invokevirtual 357, 3) := by decide +kernel
theorem dX11_openFlap_23 : decode cX11_openFlap 23 = .ok (.ifCond .eq 5, 3) := by decide +kernel
theorem dX11_openFlap_26 : decode cX11_openFlap 26 = .ok (.iconst 0, 1) := by decide +kernel
theorem dX11_openFlap_27 : decode cX11_openFlap 27 = .ok (.ireturn, 1) := by decide +kernel
theorem dX11_openFlap_28 : decode cX11_openFlap 28 = .ok (.aload_n 0, 1) := by decide +kernel
theorem dX11_openFlap_29 : decode cX11_openFlap 29 = .ok (.invokevirtual 351, 3) := by decide +kernel
theorem dX11_openFlap_32 : decode cX11_openFlap 32 = .ok (.aload_n 0, 1) := by decide +kernel
theorem dX11_openFlap_33 : decode cX11_openFlap 33 = .ok (.iload_n 1, 1) := by decide +kernel
theorem dX11_openFlap_34 : decode cX11_openFlap 34 = .ok (.iconst 1, 1) := by decide +kernel
theorem dX11_openFlap_35 : decode cX11_openFlap 35 = .ok (.invokevirtual 330, 3) := by decide +kernel
theorem dX11_openFlap_38 : decode cX11_openFlap 38 = .ok (.ireturn, 1) := by decide +kernel
theorem dX11_shutFlap_0 : decode cX11_shutFlap 0 = .ok (.aload_n 0, 1) := by decide +kernel
theorem dX11_shutFlap_1 : decode cX11_shutFlap 1 = .ok (.iconst 0, 1) := by decide +kernel
theorem dX11_shutFlap_2 : decode cX11_shutFlap 2 = .ok (.putfield 66, 3) := by decide +kernel
theorem dX11_shutFlap_5 : decode cX11_shutFlap 5 = .ok (.aload_n 0, 1) := by decide +kernel
theorem dX11_shutFlap_6 : decode cX11_shutFlap 6 = .ok (.iload_n 1, 1) := by decide +kernel
theorem dX11_shutFlap_7 : decode cX11_shutFlap 7 = .ok (.invokevirtual 367, 3) := by decide +kernel
theorem dX11_shutFlap_10 : decode cX11_shutFlap 10 = .ok (.ifCond .ne 24, 3) := by decide +kernel
theorem dX11_shutFlap_13 : decode cX11_shutFlap 13 = .ok (.aload_n 0, 1) := by decide +kernel
theorem dX11_shutFlap_14 : decode cX11_shutFlap 14 = .ok (.aload_n 0, 1) := by decide +kernel
theorem dX11_shutFlap_15 : decode cX11_shutFlap 15 = .ok (.iload_n 1, 1) := by decide +kernel
theorem dX11_shutFlap_16 : decode cX11_shutFlap 16 = .ok (.invokevirtual 102, 3) := by decide +kernel
theorem dX11_shutFlap_19 : decode cX11_shutFlap 19 = .ok (.ifCond .ne 7, 3) := by decide +kernel
theorem dX11_shutFlap_22 : decode cX11_shutFlap 22 = .ok (.iconst 1, 1) := by decide +kernel
theorem dX11_shutFlap_23 : decode cX11_shutFlap 23 = .ok (.goto 4, 3) := by decide +kernel
theorem dX11_shutFlap_26 : decode cX11_shutFlap 26 = .ok (.iconst 0, 1) := by decide +kernel
theorem dX11_shutFlap_27 : decode cX11_shutFlap 27 = .ok (.iconst 2, 1) := by decide +kernel
theorem dX11_shutFlap_28 : decode cX11_shutFlap 28 = .ok (.invokevirtual 357, 3) := by decide +kernel
theorem dX11_shutFlap_31 : decode cX11_shutFlap 31 = .ok (.ifCond .eq 5, 3) := by decide +kernel
theorem dX11_shutFlap_34 : decode cX11_shutFlap 34 = .ok (.iconst 0, 1) := by decide +kernel
theorem dX11_shutFlap_35 : decode cX11_shutFlap 35 = .ok (.ireturn, 1) := by decide +kernel
theorem dX11_shutFlap_36 : decode cX11_shutFlap 36 = .ok (.aload_n 0, 1) := by decide +kernel
theorem dX11_shutFlap_37 : decode cX11_shutFlap 37 = .ok (.invokevirtual 351, 3) := by decide +kernel
theorem dX11_shutFlap_40 : decode cX11_shutFlap 40 = .ok (.aload_n 0, 1) := by decide +kernel
theorem dX11_shutFlap_41 : decode cX11_shutFlap 41 = .ok (.iload_n 1, 1) := by decide +kernel
theorem dX11_shutFlap_42 : decode cX11_shutFlap 42 = .ok (.iconst 0, 1) := by decide +kernel
theorem dX11_shutFlap_43 : decode cX11_shutFlap 43 = .ok (.invokevirtual 330, 3) := by decide +kernel
theorem dX11_shutFlap_46 : decode cX11_shutFlap 46 = .ok (.ireturn, 1) := by decide +kernel
theorem dX11_addMice_0 : decode cX11_addMice 0 = .ok (.aload_n 0, 1) := by decide +kernel
theorem dX11_addMice_1 : decode cX11_addMice 1 = .ok (.iconst 0, 1) := by decide +kernel
theorem dX11_addMice_2 : decode cX11_addMice 2 = .ok (.putfield 66, 3) := by decide +kernel
theorem dX11_addMice_5 : decode cX11_addMice 5 = .ok (.aload_n 0, 1) := by decide +kernel
theorem dX11_addMice_6 : decode cX11_addMice 6 = .ok (.iload_n 1, 1) := by decide +kernel
theorem dX11_addMice_7 : decode cX11_addMice 7 = .ok (.invokevirtual 367, 3) := by decide +kernel
theorem dX11_addMice_10 : decode cX11_addMice 10 = .ok (.ifCond .ne 48, 3) := by decide +kernel
theorem dX11_addMice_13 : decode cX11_addMice 13 = .ok (.aload_n 0, 1) := by decide +kernel
theorem dX11_addMice_14 : decode cX11_addMice 14 = .ok (.iload_n 2, 1) := by decide +kernel
theorem dX11_addMice_15 : decode cX11_addMice 15 = .ok (.iconst 1, 1) := by decide +kernel
theorem dX11_addMice_16 : decode cX11_addMice 16 = .ok (.bipush 99, 2) := by decide +kernel
theorem dX11_addMice_18 : decode cX11_addMice 18 = .ok (.invokestatic 174, 3) := by decide +kernel
theorem dX11_addMice_21 : decode cX11_addMice 21 = .ok (.ifCond .ne 7, 3) := by decide +kernel
theorem dX11_addMice_24 : decode cX11_addMice 24 = .ok (.iconst 1, 1) := by decide +kernel
theorem dX11_addMice_25 : decode cX11_addMice 25 = .ok (.goto 4, 3) := by decide +kernel
theorem dX11_addMice_28 : decode cX11_addMice 28 = .ok (.iconst 0, 1) := by decide +kernel
theorem dX11_addMice_29 : decode cX11_addMice 29 = .ok (.iconst 2, 1) := by decide +kernel
theorem dX11_addMice_30 : decode cX11_addMice 30 = .ok (.invokevirtual 357, 3) := by decide +kernel
theorem dX11_addMice_33 : decode cX11_addMice 33 = .ok (.ifCond .ne 25, 3) := by decide +kernel
theorem dX11_addMice_36 : decode cX11_addMice 36 = .ok (.aload_n 0, 1) := by decide +kernel
theorem dX11_addMice_37 : decode cX11_addMice 37 = .ok (.aload_n 0, 1) := by decide +kernel
theorem dX11_addMice_38 : decode cX11_addMice 38 = .ok (.iload_n 1, 1) := by decide +kernel
theorem dX11_addMice_39 : decode cX11_addMice 39 = .ok (.iload_n 2, 1) := by decide +kernel
theorem dX11_addMice_40 : decode cX11_addMice 40 = .ok (.invokevirtual 333, 3) := by decide +kernel
theorem dX11_addMice_43 : decode cX11_addMice 43 = .ok (.ifCond .ne 7, 3) := by decide +kernel
theorem dX11_addMice_46 : decode cX11_addMice 46 = .ok (.iconst 1, 1) := by decide +kernel
theorem dX11_addMice_47 : decode cX11_addMice 47 = .ok (.goto 4, 3) := by decide +kernel
theorem dX11_addMice_50 : decode cX11_addMice 50 = .ok (.iconst 0, 1) := by decide +kernel
theorem dX11_addMice_51 : decode cX11_addMice 51 = .ok (.iconst 3, 1) := by decide +kernel
theorem dX11_addMice_52 : decode cX11_addMice 52 = .ok (.invokevirtual 357, 3) := by decide +kernel
theorem dX11_addMice_55 : decode cX11_addMice 55 = .ok (.ifCond .eq 5, 3) := by decide +kernel
theorem dX11_addMice_58 : decode cX11_addMice 58 = .ok (.iconst 0, 1) := by decide +kernel
theorem dX11_addMice_59 : decode cX11_addMice 59 = .ok (.ireturn, 1) := by decide +kernel
theorem dX11_addMice_60 : decode cX11_addMice 60 = .ok (.aload_n 0, 1) := by decide +kernel
theorem dX11_addMice_61 : decode cX11_addMice 61 = .ok (.invokevirtual 351, 3) := by decide +kernel
theorem dX11_addMice_64 : decode cX11_addMice 64 = .ok (.aload_n 0, 1) := by decide +kernel
theorem dX11_addMice_65 : decode cX11_addMice 65 = .ok (.iload_n 1, 1) := by decide +kernel
theorem dX11_addMice_66 : decode cX11_addMice 66 = .ok (.iload_n 2, 1) := by decide +kernel
theorem dX11_addMice_67 : decode cX11_addMice 67 = .ok (.invokevirtual 336, 3) := by decide +kernel
theorem dX11_addMice_70 : decode cX11_addMice 70 = .ok (.ireturn, 1) := by decide +kernel
theorem dX11_addGrain_0 : decode cX11_addGrain 0 = .ok (.aload_n 0, 1) := by decide +kernel
theorem dX11_addGrain_1 : decode cX11_addGrain 1 = .ok (.iconst 0, 1) := by decide +kernel
theorem dX11_addGrain_2 : decode cX11_addGrain 2 = .ok (.putfield 66, 3) := by decide +kernel
theorem dX11_addGrain_5 : decode cX11_addGrain 5 = .ok (.aload_n 0, 1) := by decide +kernel
theorem dX11_addGrain_6 : decode cX11_addGrain 6 = .ok (.iload_n 1, 1) := by decide +kernel
theorem dX11_addGrain_7 : decode cX11_addGrain 7 = .ok (.invokevirtual 367, 3) := by decide +kernel
theorem dX11_addGrain_10 : decode cX11_addGrain 10 = .ok (.ifCond .ne 49, 3) := by decide +kernel
theorem dX11_addGrain_13 : decode cX11_addGrain 13 = .ok (.aload_n 0, 1) := by decide +kernel
theorem dX11_addGrain_14 : decode cX11_addGrain 14 = .ok (.iload_n 2, 1) := by decide +kernel
theorem dX11_addGrain_15 : decode cX11_addGrain 15 = .ok (.iconst 1, 1) := by decide +kernel
theorem dX11_addGrain_16 : decode cX11_addGrain 16 = .ok (.sipush 999, 3) := by decide +kernel
theorem dX11_addGrain_19 : decode cX11_addGrain 19 = .ok (.invokestatic 174, 3) := by decide +kernel
theorem dX11_addGrain_22 : decode cX11_addGrain 22 = .ok (.ifCond .ne 7, 3) := by decide +kernel
theorem dX11_addGrain_25 : decode cX11_addGrain 25 = .ok (.iconst 1, 1) := by decide +kernel
theorem dX11_addGrain_26 : decode cX11_addGrain 26 = .ok (.goto 4, 3) := by decide +kernel
theorem dX11_addGrain_29 : decode cX11_addGrain 29 = .ok (.iconst 0, 1) := by decide +kernel
theorem dX11_addGrain_30 : decode cX11_addGrain 30 = .ok (.iconst 2, 1) := by decide +kernel
theorem dX11_addGrain_31 : decode cX11_addGrain 31 = .ok (.invokevirtual 357, 3) := by decide +kernel
theorem dX11_addGrain_34 : decode cX11_addGrain 34 = .ok (.ifCond .ne 25, 3) := by decide +kernel
theorem dX11_addGrain_37 : decode cX11_addGrain 37 = .ok (.aload_n 0, 1) := by decide +kernel
theorem dX11_addGrain_38 : decode cX11_addGrain 38 = .ok (.aload_n 0, 1) := by decide +kernel
theorem dX11_addGrain_39 : decode cX11_addGrain 39 = .ok (.iload_n 1, 1) := by decide +kernel
theorem dX11_addGrain_40 : decode cX11_addGrain 40 = .ok (.iload_n 2, 1) := by decide +kernel
theorem dX11_addGrain_41 : decode cX11_addGrain 41 = .ok (.invokevirtual 339, 3) := by decide +kernel
theorem dX11_addGrain_44 : decode cX11_addGrain 44 = .ok (.ifCond .ne 7, 3) := by decide +kernel
theorem dX11_addGrain_47 : decode cX11_addGrain 47 = .ok (.iconst 1, 1) := by decide +kernel
theorem dX11_addGrain_48 : decode cX11_addGrain 48 = .ok (.goto 4, 3) := by decide +kernel
theorem dX11_addGrain_51 : decode cX11_addGrain 51 = .ok (.iconst 0, 1) := by decide +kernel
theorem dX11_addGrain_52 : decode cX11_addGrain 52 = .ok (.iconst 3, 1) := by decide +kernel
theorem dX11_addGrain_53 : decode cX11_addGrain 53 = .ok (.invokevirtual 357, 3) := by decide +kernel
theorem dX11_addGrain_56 : decode cX11_addGrain 56 = .ok (.ifCond .eq 5, 3) := by decide +kernel
theorem dX11_addGrain_59 : decode cX11_addGrain 59 = .ok (.iconst 0, 1) := by decide +kernel
theorem dX11_addGrain_60 : decode cX11_addGrain 60 = .ok (.ireturn, 1) := by decide +kernel
theorem dX11_addGrain_61 : decode cX11_addGrain 61 = .ok (.aload_n 0, 1) := by decide +kernel
theorem dX11_addGrain_62 : decode cX11_addGrain 62 = .ok (.invokevirtual 351, 3) := by decide +kernel
theorem dX11_addGrain_65 : decode cX11_addGrain 65 = .ok (.aload_n 0, 1) := by decide +kernel
theorem dX11_addGrain_66 : decode cX11_addGrain 66 = .ok (.iload_n 1, 1) := by decide +kernel
theorem dX11_addGrain_67 : decode cX11_addGrain 67 = .ok (.iload_n 2, 1) := by decide +kernel
theorem dX11_addGrain_68 : decode cX11_addGrain 68 = .ok (.invokevirtual 342, 3) := by decide +kernel
theorem dX11_addGrain_71 : decode cX11_addGrain 71 = .ok (.ireturn, 1) := by decide +kernel
theorem dX11_dismiss_0 : decode cX11_dismiss 0 = .ok (.aload_n 0, 1) := by decide +kernel
theorem dX11_dismiss_1 : decode cX11_dismiss 1 = .ok (.iconst 0, 1) := by decide +kernel
theorem dX11_dismiss_2 : decode cX11_dismiss 2 = .ok (.putfield 66, 3) := by decide +kernel
theorem dX11_dismiss_5 : decode cX11_dismiss 5 = .ok (.aload_n 0, 1) := by decide +kernel
theorem dX11_dismiss_6 : decode cX11_dismiss 6 = .ok (.aload_n 0, 1) := by decide +kernel
theorem dX11_dismiss_7 : decode cX11_dismiss 7 = .ok (.getfield 7, 3) := by decide +kernel
theorem dX11_dismiss_10 : decode cX11_dismiss 10 = .ok (.iconst 5, 1) := by decide +kernel
theorem dX11_dismiss_11 : decode cX11_dismiss 11 = .ok (.iaload, 1) := by decide +kernel
theorem dX11_dismiss_12 : decode cX11_dismiss 12 = .ok (.iconst (-1), 1) := by decide +kernel
theorem dX11_dismiss_13 : decode cX11_dismiss 13 = .ok (.if_icmp .ne 7, 3) := by decide +kernel
theorem dX11_dismiss_16 : decode cX11_dismiss 16 = .ok (.iconst 1, 1) := by decide +kernel
theorem dX11_dismiss_17 : decode cX11_dismiss 17 = .ok (.goto 4, 3) := by decide +kernel
theorem dX11_dismiss_20 : decode cX11_dismiss 20 = .ok (.iconst 0, 1) := by decide +kernel
theorem dX11_dismiss_21 : decode cX11_dismiss 21 = .ok (.iconst 1, 1) := by decide +kernel
theorem dX11_dismiss_22 : decode cX11_dismiss 22 = .ok (.invokevirtual 357, 3) := by decide +kernel
theorem dX11_dismiss_25 : decode cX11_dismiss 25 = .ok (.ifCond .eq 5, 3) := by decide +kernel
theorem dX11_dismiss_28 : decode cX11_dismiss 28 = .ok (.iconst 0, 1) := by decide +kernel
theorem dX11_dismiss_29 : decode cX11_dismiss 29 = .ok (.ireturn, 1) := by decide +kernel
theorem dX11_dismiss_30 : decode cX11_dismiss 30 = .ok (.aload_n 0, 1) := by decide +kernel
theorem dX11_dismiss_31 : decode cX11_dismiss 31 = .ok (.invokevirtual 351, 3) := by decide +kernel
theorem dX11_dismiss_34 : decode cX11_dismiss 34 = .ok (.aload_n 0, 1) := by decide +kernel
theorem dX11_dismiss_35 : decode cX11_dismiss 35 = .ok (.iconst 5, 1) := by decide +kernel
theorem dX11_dismiss_36 : decode cX11_dismiss 36 = .ok (.iconst (-1), 1) := by decide +kernel
theorem dX11_dismiss_37 : decode cX11_dismiss 37 = .ok (.invokevirtual 345, 3) := by decide +kernel
theorem dX11_dismiss_40 : decode cX11_dismiss 40 = .ok (.ireturn, 1) := by decide +kernel
theorem dX11_setMilk_0 : decode cX11_setMilk 0 = .ok (.aload_n 0, 1) := by decide +kernel
theorem dX11_setMilk_1 : decode cX11_setMilk 1 = .ok (.iconst 0, 1) := by decide +kernel
theorem dX11_setMilk_2 : decode cX11_setMilk 2 = .ok (.putfield 66, 3) := by decide +kernel
theorem dX11_setMilk_5 : decode cX11_setMilk 5 = .ok (.aload_n 0, 1) := by decide +kernel
theorem dX11_setMilk_6 : decode cX11_setMilk 6 = .ok (.iload_n 1, 1) := by decide +kernel
theorem dX11_setMilk_7 : decode cX11_setMilk 7 = .ok (.iconst 0, 1) := by decide +kernel
theorem dX11_setMilk_8 : decode cX11_setMilk 8 = .ok (.bipush 9, 2) := by decide +kernel
theorem dX11_setMilk_10 : decode cX11_setMilk 10 = .ok (.invokestatic 174, 3) := by decide +kernel
theorem dX11_setMilk_13 : decode cX11_setMilk 13 = .ok (.ifCond .ne 7, 3) := by decide +kernel
theorem dX11_setMilk_16 : decode cX11_setMilk 16 = .ok (.iconst 1, 1) := by decide +kernel
theorem dX11_setMilk_17 : decode cX11_setMilk 17 = .ok (.goto 4, 3) := by decide +kernel
theorem dX11_setMilk_20 : decode cX11_setMilk 20 = .ok (.iconst 0, 1) := by decide +kernel
theorem dX11_setMilk_21 : decode cX11_setMilk 21 = .ok (.iconst 1, 1) := by decide +kernel
theorem dX11_setMilk_22 : decode cX11_setMilk 22 = .ok (.invokevirtual 357, 3) := by decide +kernel
theorem dX11_setMilk_25 : decode cX11_setMilk 25 = .ok (.ifCond .eq 5, 3) := by decide +kernel
theorem dX11_setMilk_28 : decode cX11_setMilk 28 = .ok (.iconst 0, 1) := by decide +kernel
theorem dX11_setMilk_29 : decode cX11_setMilk 29 = .ok (.ireturn, 1) := by decide +kernel
theorem dX11_setMilk_30 : decode cX11_setMilk 30 = .ok (.aload_n 0, 1) := by decide +kernel
theorem dX11_setMilk_31 : decode cX11_setMilk 31 = .ok (.invokevirtual 351, 3) := by decide +kernel
theorem dX11_setMilk_34 : decode cX11_setMilk 34 = .ok (.aload_n 0, 1) := by decide +kernel
theorem dX11_setMilk_35 : decode cX11_setMilk 35 = .ok (.iconst 4, 1) := by decide +kernel
theorem dX11_setMilk_36 : decode cX11_setMilk 36 = .ok (.iload_n 1, 1) := by decide +kernel
theorem dX11_setMilk_37 : decode cX11_setMilk 37 = .ok (.invokevirtual 345, 3) := by decide +kernel
theorem dX11_setMilk_40 : decode cX11_setMilk 40 = .ok (.ireturn, 1) := by decide +kernel
theorem dX11_undo_0 : decode cX11_undo 0 = .ok (.aload_n 0, 1) := by decide +kernel
theorem dX11_undo_1 : decode cX11_undo 1 = .ok (.iconst 0, 1) := by decide +kernel
theorem dX11_undo_2 : decode cX11_undo 2 = .ok (.putfield 66, 3) := by decide +kernel
theorem dX11_undo_5 : decode cX11_undo 5 = .ok (.aload_n 0, 1) := by decide +kernel
theorem dX11_undo_6 : decode cX11_undo 6 = .ok (.aload_n 0, 1) := by decide +kernel
theorem dX11_undo_7 : decode cX11_undo 7 = .ok (.getfield 161, 3) := by decide +kernel
theorem dX11_undo_10 : decode cX11_undo 10 = .ok (.ifCond .ne 7, 3) := by decide +kernel
theorem dX11_undo_13 : decode cX11_undo 13 = .ok (.iconst 1, 1) := by decide +kernel
theorem dX11_undo_14 : decode cX11_undo 14 = .ok (.goto 4, 3) := by decide +kernel
theorem dX11_undo_17 : decode cX11_undo 17 = .ok (.iconst 0, 1) := by decide +kernel
theorem dX11_undo_18 : decode cX11_undo 18 = .ok (.iconst 1, 1) := by decide +kernel
theorem dX11_undo_19 : decode cX11_undo 19 = .ok (.invokevirtual 357, 3) := by decide +kernel
theorem dX11_undo_22 : decode cX11_undo 22 = .ok (.ifCond .eq 5, 3) := by decide +kernel
theorem dX11_undo_25 : decode cX11_undo 25 = .ok (.iconst 0, 1) := by decide +kernel
theorem dX11_undo_26 : decode cX11_undo 26 = .ok (.ireturn, 1) := by decide +kernel
theorem dX11_undo_27 : decode cX11_undo 27 = .ok (.aload_n 0, 1) := by decide +kernel
theorem dX11_undo_28 : decode cX11_undo 28 = .ok (.dup, 1) := by decide +kernel
theorem dX11_undo_29 : decode cX11_undo 29 = .ok (.getfield 161, 3) := by decide +kernel
theorem dX11_undo_32 : decode cX11_undo 32 = .ok (.iconst 1, 1) := by decide +kernel
theorem dX11_undo_33 : decode cX11_undo 33 = .ok (.isub, 1) := by decide +kernel
theorem dX11_undo_34 : decode cX11_undo 34 = .ok (.putfield 161, 3) := by decide +kernel
theorem dX11_undo_37 : decode cX11_undo 37 = .ok (.aload_n 0, 1) := by decide +kernel
theorem dX11_undo_38 : decode cX11_undo 38 = .ok (.getfield 22, 3) := by decide +kernel
theorem dX11_undo_41 : decode cX11_undo 41 = .ok (.sipush 257, 3) := by decide +kernel
theorem dX11_undo_44 : decode cX11_undo 44 = .ok (.aload_n 0, 1) := by decide +kernel
theorem dX11_undo_45 : decode cX11_undo 45 = .ok (.getfield 161, 3) := by decide +kernel
theorem dX11_undo_48 : decode cX11_undo 48 = .ok (.imul, 1) := by decide +kernel
theorem dX11_undo_49 : decode cX11_undo 49 = .ok (.aload_n 0, 1) := by decide +kernel
theorem dX11_undo_50 : decode cX11_undo 50 = .ok (.getfield 7, 3) := by decide +kernel
theorem dX11_undo_53 : decode cX11_undo 53 = .ok (.iconst 0, 1) := by decide +kernel
theorem dX11_undo_54 : decode cX11_undo 54 = .ok (.invokestatic 164, 3) := by decide +kernel
theorem dX11_undo_57 : decode cX11_undo 57 = .ok (.aload_n 0, 1) := by decide +kernel
theorem dX11_undo_58 : decode cX11_undo 58 = .ok (.getfield 161, 3) := by decide +kernel
theorem dX11_undo_61 : decode cX11_undo 61 = .ok (.ireturn, 1) := by decide +kernel
theorem dX11_write_0 : decode cX11_write 0 = .ok (.aload_n 0, 1) := by decide +kernel
theorem dX11_write_1 : decode cX11_write 1 = .ok (.getfield 41, 3) := by decide +kernel
theorem dX11_write_4 : decode cX11_write 4 = .ok (.aload_n 0, 1) := by decide +kernel
theorem dX11_write_5 : decode cX11_write 5 = .ok (.getfield 400, 3) := by decide +kernel
theorem dX11_write_8 : decode cX11_write 8 = .ok (.iload_n 1, 1) := by decide +kernel
theorem dX11_write_9 : decode cX11_write 9 = .ok (.iastore, 1) := by decide +kernel
theorem dX11_write_10 : decode cX11_write 10 = .ok (.aload_n 0, 1) := by decide +kernel
theorem dX11_write_11 : decode cX11_write 11 = .ok (.dup, 1) := by decide +kernel
theorem dX11_write_12 : decode cX11_write 12 = .ok (.getfield 400, 3) := by decide +kernel
theorem dX11_write_15 : decode cX11_write 15 = .ok (.iconst 1, 1) := by decide +kernel
theorem dX11_write_16 : decode cX11_write 16 = .ok (.iadd, 1) := by decide +kernel
theorem dX11_write_17 : decode cX11_write 17 = .ok (.putfield 400, 3) := by decide +kernel
theorem dX11_write_20 : decode cX11_write 20 = .ok (.return_, 1) := by decide +kernel
theorem dX11_writeNumber_0 : decode cX11_writeNumber 0 = .ok (.iload_n 1, 1) := by decide +kernel
theorem dX11_writeNumber_1 : decode cX11_writeNumber 1 = .ok (.bipush 9, 2) := by decide +kernel
theorem dX11_writeNumber_3 : decode cX11_writeNumber 3 = .ok (.if_icmp .le 11, 3) := by decide +kernel
theorem dX11_writeNumber_6 : decode cX11_writeNumber 6 = .ok (.aload_n 0, 1) := by decide +kernel
theorem dX11_writeNumber_7 : decode cX11_writeNumber 7 = .ok (.iload_n 1, 1) := by decide +kernel
theorem dX11_writeNumber_8 : decode cX11_writeNumber 8 = .ok (.bipush 10, 2) := by decide +kernel
theorem dX11_writeNumber_10 : decode cX11_writeNumber 10 = .ok (.idiv, 1) := by decide +kernel
theorem dX11_writeNumber_11 : decode cX11_writeNumber 11 = .ok (.invokevirtual 403, 3) := by decide +kernel
theorem dX11_writeNumber_14 : decode cX11_writeNumber 14 = .ok (.aload_n 0, 1) := by decide +kernel
theorem dX11_writeNumber_15 : decode cX11_writeNumber 15 = .ok (.bipush 48, 2) := by decide +kernel
theorem dX11_writeNumber_17 : decode cX11_writeNumber 17 = .ok (.iload_n 1, 1) := by decide +kernel
theorem dX11_writeNumber_18 : decode cX11_writeNumber 18 = .ok (.bipush 10, 2) := by decide +kernel
theorem dX11_writeNumber_20 : decode cX11_writeNumber 20 = .ok (.irem, 1) := by decide +kernel
theorem dX11_writeNumber_21 : decode cX11_writeNumber 21 = .ok (.iadd, 1) := by decide +kernel
theorem dX11_writeNumber_22 : decode cX11_writeNumber 22 = .ok (.invokevirtual 406, 3) := by decide +kernel
theorem dX11_writeNumber_25 : decode cX11_writeNumber 25 = .ok (.return_, 1) := by decide +kernel
theorem dX11_writeSacks_0 : decode cX11_writeSacks 0 = .ok (.aload_n 0, 1) := by decide +kernel
theorem dX11_writeSacks_1 : decode cX11_writeSacks 1 = .ok (.iconst 0, 1) := by decide +kernel
theorem dX11_writeSacks_2 : decode cX11_writeSacks 2 = .ok (.putfield 66, 3) := by decide +kernel
theorem dX11_writeSacks_5 : decode cX11_writeSacks 5 = .ok (.aload_n 0, 1) := by decide +kernel
theorem dX11_writeSacks_6 : decode cX11_writeSacks 6 = .ok (.iconst 0, 1) := by decide +kernel
theorem dX11_writeSacks_7 : decode cX11_writeSacks 7 = .ok (.putfield 400, 3) := by decide +kernel
theorem dX11_writeSacks_10 : decode cX11_writeSacks 10 = .ok (.iconst 0, 1) := by decide +kernel
theorem dX11_writeSacks_11 : decode cX11_writeSacks 11 = .ok (.istore_n 1, 1) := by decide +kernel
theorem dX11_writeSacks_12 : decode cX11_writeSacks 12 = .ok (.iload_n 1, 1) := by decide +kernel
theorem dX11_writeSacks_13 : decode cX11_writeSacks 13 = .ok (.aload_n 0, 1) := by decide +kernel
theorem dX11_writeSacks_14 : decode cX11_writeSacks 14 = .ok (.getfield 7, 3) := by decide +kernel
theorem dX11_writeSacks_17 : decode cX11_writeSacks 17 = .ok (.iconst 1, 1) := by decide +kernel
theorem dX11_writeSacks_18 : decode cX11_writeSacks 18 = .ok (.iaload, 1) := by decide +kernel
theorem dX11_writeSacks_19 : decode cX11_writeSacks 19 = .ok (.if_icmp .ge 97, 3) := by decide +kernel
theorem dX11_writeSacks_22 : decode cX11_writeSacks 22 = .ok (.iload_n 1, 1) := by decide +kernel
theorem dX11_writeSacks_23 : decode cX11_writeSacks 23 = .ok (.ifCond .le 9, 3) := by decide +kernel
theorem dX11_writeSacks_26 : decode cX11_writeSacks 26 = .ok (.aload_n 0, 1) := by decide +kernel
theorem dX11_writeSacks_27 : decode cX11_writeSacks 27 = .ok (.bipush 32, 2) := by decide +kernel
theorem dX11_writeSacks_29 : decode cX11_writeSacks 29 = .ok (.invokevirtual 406, 3) := by decide +kernel
theorem dX11_writeSacks_32 : decode cX11_writeSacks 32 = .ok (.iconst 0, 1) := by decide +kernel
theorem dX11_writeSacks_33 : decode cX11_writeSacks 33 = .ok (.istore_n 2, 1) := by decide +kernel
theorem dX11_writeSacks_34 : decode cX11_writeSacks 34 = .ok (.iload_n 2, 1) := by decide +kernel
theorem dX11_writeSacks_35 : decode cX11_writeSacks 35 = .ok (.aload_n 0, 1) := by decide +kernel
theorem dX11_writeSacks_36 : decode cX11_writeSacks 36 = .ok (.iload_n 1, 1) := by decide +kernel
theorem dX11_writeSacks_37 : decode cX11_writeSacks 37 = .ok (.iconst 0, 1) := by decide +kernel
theorem dX11_writeSacks_38 : decode cX11_writeSacks 38 = .ok (.invokevirtual 99, 3) := by decide +kernel
theorem dX11_writeSacks_41 : decode cX11_writeSacks 41 = .ok (.if_icmp .ge 21, 3) := by decide +kernel
theorem dX11_writeSacks_44 : decode cX11_writeSacks 44 = .ok (.aload_n 0, 1) := by decide +kernel
theorem dX11_writeSacks_45 : decode cX11_writeSacks 45 = .ok (.aload_n 0, 1) := by decide +kernel
theorem dX11_writeSacks_46 : decode cX11_writeSacks 46 = .ok (.iload_n 1, 1) := by decide +kernel
theorem dX11_writeSacks_47 : decode cX11_writeSacks 47 = .ok (.iconst 1, 1) := by decide +kernel
theorem dX11_writeSacks_48 : decode cX11_writeSacks 48 = .ok (.iload_n 2, 1) := by decide +kernel
theorem dX11_writeSacks_49 : decode cX11_writeSacks 49 = .ok (.iadd, 1) := by decide +kernel
theorem dX11_writeSacks_50 : decode cX11_writeSacks 50 = .ok (.invokevirtual 99, 3) := by decide +kernel
theorem dX11_writeSacks_53 : decode cX11_writeSacks 53 = .ok (.invokevirtual 406, 3) := by decide +kernel
theorem dX11_writeSacks_56 : decode cX11_writeSacks 56 = .ok (.iinc 2 1, 3) := by decide +kernel
theorem dX11_writeSacks_59 : decode cX11_writeSacks 59 = .ok (.goto (-25), 3) := by decide +kernel
theorem dX11_writeSacks_62 : decode cX11_writeSacks 62 = .ok (.aload_n 0, 1) := by decide +kernel
theorem dX11_writeSacks_63 : decode cX11_writeSacks 63 = .ok (.bipush 58, 2) := by decide +kernel
theorem dX11_writeSacks_65 : decode cX11_writeSacks 65 = .ok (.invokevirtual 406, 3) := by decide +kernel
theorem dX11_writeSacks_68 : decode cX11_writeSacks 68 = .ok (.aload_n 0, 1) := by decide +kernel
theorem dX11_writeSacks_69 : decode cX11_writeSacks 69 = .ok (.aload_n 0, 1) := by decide +kernel
theorem dX11_writeSacks_70 : decode cX11_writeSacks 70 = .ok (.iload_n 1, 1) := by decide +kernel
theorem dX11_writeSacks_71 : decode cX11_writeSacks 71 = .ok (.bipush 7, 2) := by decide +kernel
theorem dX11_writeSacks_73 : decode cX11_writeSacks 73 = .ok (.invokevirtual 99, 3) := by decide +kernel
theorem dX11_writeSacks_76 : decode cX11_writeSacks 76 = .ok (.invokevirtual 403, 3) := by decide +kernel
theorem dX11_writeSacks_79 : decode cX11_writeSacks 79 = .ok (.aload_n 0, 1) := by decide +kernel
theorem dX11_writeSacks_80 : decode cX11_writeSacks 80 = .ok (.bipush 47, 2) := by decide +kernel
theorem dX11_writeSacks_82 : decode cX11_writeSacks 82 = .ok (.invokevirtual 406, 3) := by decide +kernel
theorem dX11_writeSacks_85 : decode cX11_writeSacks 85 = .ok (.aload_n 0, 1) := by decide +kernel
theorem dX11_writeSacks_86 : decode cX11_writeSacks 86 = .ok (.aload_n 0, 1) := by decide +kernel
theorem dX11_writeSacks_87 : decode cX11_writeSacks 87 = .ok (.iload_n 1, 1) := by decide +kernel
theorem dX11_writeSacks_88 : decode cX11_writeSacks 88 = .ok (.bipush 8, 2) := by decide +kernel
theorem dX11_writeSacks_90 : decode cX11_writeSacks 90 = .ok (.invokevirtual 99, 3) := by decide +kernel
theorem dX11_writeSacks_93 : decode cX11_writeSacks 93 = .ok (.invokevirtual 403, 3) := by decide +kernel
theorem dX11_writeSacks_96 : decode cX11_writeSacks 96 = .ok (.aload_n 0, 1) := by decide +kernel
theorem dX11_writeSacks_97 : decode cX11_writeSacks 97 = .ok (.iload_n 1, 1) := by decide +kernel
theorem dX11_writeSacks_98 : decode cX11_writeSacks 98 = .ok (.invokevirtual 102, 3) := by decide +kernel
theorem dX11_writeSacks_101 : decode cX11_writeSacks 101 = .ok (.ifCond .eq 9, 3) := by decide +kernel
theorem dX11_writeSacks_104 : decode cX11_writeSacks 104 = .ok (.aload_n 0, 1) := by decide +kernel
theorem dX11_writeSacks_105 : decode cX11_writeSacks 105 = .ok (.bipush 39, 2) := by decide +kernel
theorem dX11_writeSacks_107 : decode cX11_writeSacks 107 = .ok (.invokevirtual 406, 3) := by decide +kernel
theorem dX11_writeSacks_110 : decode cX11_writeSacks 110 = .ok (.iinc 1 1, 3) := by decide +kernel
theorem dX11_writeSacks_113 : decode cX11_writeSacks 113 = .ok (.goto (-101), 3) := by decide +kernel
theorem dX11_writeSacks_116 : decode cX11_writeSacks 116 = .ok (.aload_n 0, 1) := by decide +kernel
theorem dX11_writeSacks_117 : decode cX11_writeSacks 117 = .ok (.getfield 400, 3) := by decide +kernel
theorem dX11_writeSacks_120 : decode cX11_writeSacks 120 = .ok (.ireturn, 1) := by decide +kernel
theorem dX11_outputByte_0 : decode cX11_outputByte 0 = .ok (.aload_n 0, 1) := by decide +kernel
theorem dX11_outputByte_1 : decode cX11_outputByte 1 = .ok (.iconst 0, 1) := by decide +kernel
theorem dX11_outputByte_2 : decode cX11_outputByte 2 = .ok (.putfield 66, 3) := by decide +kernel
theorem dX11_outputByte_5 : decode cX11_outputByte 5 = .ok (.iload_n 1, 1) := by decide +kernel
theorem dX11_outputByte_6 : decode cX11_outputByte 6 = .ok (.iconst 0, 1) := by decide +kernel
theorem dX11_outputByte_7 : decode cX11_outputByte 7 = .ok (.aload_n 0, 1) := by decide +kernel
theorem dX11_outputByte_8 : decode cX11_outputByte 8 = .ok (.getfield 400, 3) := by decide +kernel
theorem dX11_outputByte_11 : decode cX11_outputByte 11 = .ok (.iconst 1, 1) := by decide +kernel
theorem dX11_outputByte_12 : decode cX11_outputByte 12 = .ok (.isub, 1) := by decide +kernel
theorem dX11_outputByte_13 : decode cX11_outputByte 13 = .ok (.invokestatic 174, 3) := by decide +kernel
theorem dX11_outputByte_16 : decode cX11_outputByte 16 = .ok (.ifCond .eq 12, 3) := by decide +kernel
theorem dX11_outputByte_19 : decode cX11_outputByte 19 = .ok (.aload_n 0, 1) := by decide +kernel
theorem dX11_outputByte_20 : decode cX11_outputByte 20 = .ok (.getfield 41, 3) := by decide +kernel
theorem dX11_outputByte_23 : decode cX11_outputByte 23 = .ok (.iload_n 1, 1) := by decide +kernel
theorem dX11_outputByte_24 : decode cX11_outputByte 24 = .ok (.iaload, 1) := by decide +kernel
theorem dX11_outputByte_25 : decode cX11_outputByte 25 = .ok (.goto 4, 3) := by decide +kernel
theorem dX11_outputByte_28 : decode cX11_outputByte 28 = .ok (.iconst (-1), 1) := by decide +kernel
theorem dX11_outputByte_29 : decode cX11_outputByte 29 = .ok (.ireturn, 1) := by decide +kernel
theorem dX11_saveState_0 : decode cX11_saveState 0 = .ok (.aload_n 0, 1) := by decide +kernel
theorem dX11_saveState_1 : decode cX11_saveState 1 = .ok (.iconst 0, 1) := by decide +kernel
theorem dX11_saveState_2 : decode cX11_saveState 2 = .ok (.putfield 66, 3) := by decide +kernel
theorem dX11_saveState_5 : decode cX11_saveState 5 = .ok (.aload_n 0, 1) := by decide +kernel
theorem dX11_saveState_6 : decode cX11_saveState 6 = .ok (.getfield 7, 3) := by decide +kernel
theorem dX11_saveState_9 : decode cX11_saveState 9 = .ok (.iconst 0, 1) := by decide +kernel
theorem dX11_saveState_10 : decode cX11_saveState 10 = .ok (.aload_n 0, 1) := by decide +kernel
theorem dX11_saveState_11 : decode cX11_saveState 11 = .ok (.getfield 19, 3) := by decide +kernel
theorem dX11_saveState_14 : decode cX11_saveState 14 = .ok (.iconst 0, 1) := by decide +kernel
theorem dX11_saveState_15 : decode cX11_saveState 15 = .ok (.invokestatic 164, 3) := by decide +kernel
theorem dX11_saveState_18 : decode cX11_saveState 18 = .ok (.aload_n 0, 1) := by decide +kernel
theorem dX11_saveState_19 : decode cX11_saveState 19 = .ok (.iconst 1, 1) := by decide +kernel
theorem dX11_saveState_20 : decode cX11_saveState 20 = .ok (.putfield 309, 3) := by decide +kernel
theorem dX11_saveState_23 : decode cX11_saveState 23 = .ok (.aload_n 0, 1) := by decide +kernel
theorem dX11_saveState_24 : decode cX11_saveState 24 = .ok (.getfield 7, 3) := by decide +kernel
theorem dX11_saveState_27 : decode cX11_saveState 27 = .ok (.iconst 3, 1) := by decide +kernel
theorem dX11_saveState_28 : decode cX11_saveState 28 = .ok (.iaload, 1) := by decide +kernel
theorem dX11_saveState_29 : decode cX11_saveState 29 = .ok (.ireturn, 1) := by decide +kernel
theorem dX11_restoreState_0 : decode cX11_restoreState 0 = .ok (.aload_n 0, 1) := by decide +kernel
theorem dX11_restoreState_1 : decode cX11_restoreState 1 = .ok (.iconst 0, 1) := by decide +kernel
theorem dX11_restoreState_2 : decode cX11_restoreState 2 = .ok (.putfield 66, 3) := by decide +kernel
theorem dX11_restoreState_5 : decode cX11_restoreState 5 = .ok (.aload_n 0, 1) := by decide +kernel
theorem dX11_restoreState_6 : decode cX11_restoreState 6 = .ok (.aload_n 0, 1) := by decide +kernel
theorem dX11_restoreState_7 : decode cX11_restoreState 7 = .ok (.getfield 309, 3) := by decide +kernel
theorem dX11_restoreState_10 : decode cX11_restoreState 10 = .ok (.ifCond .ne 7, 3) := by decide +kernel
theorem dX11_restoreState_13 : decode cX11_restoreState 13 = .ok (.iconst 1, 1) := by decide +kernel
theorem dX11_restoreState_14 : decode cX11_restoreState 14 = .ok (.goto 4, 3) := by decide +kernel
theorem dX11_restoreState_17 : decode cX11_restoreState 17 = .ok (.iconst 0, 1) := by decide +kernel
theorem dX11_restoreState_18 : decode cX11_restoreState 18 = .ok (.iconst 1, 1) := by decide +kernel
theorem dX11_restoreState_19 : decode cX11_restoreState 19 = .ok (.invokevirtual 357, 3) := by decide +kernel
theorem dX11_restoreState_22 : decode cX11_restoreState 22 = .ok (.ifCond .eq 5, 3) := by decide +kernel
theorem dX11_restoreState_25 : decode cX11_restoreState 25 = .ok (.iconst 0, 1) := by decide +kernel
theorem dX11_restoreState_26 : decode cX11_restoreState 26 = .ok (.ireturn, 1) := by decide +kernel
theorem dX11_restoreState_27 : decode cX11_restoreState 27 = .ok (.aload_n 0, 1) := by decide +kernel
theorem dX11_restoreState_28 : decode cX11_restoreState 28 = .ok (.getfield 19, 3) := by decide +kernel
theorem dX11_restoreState_31 : decode cX11_restoreState 31 = .ok (.iconst 0, 1) := by decide +kernel
theorem dX11_restoreState_32 : decode cX11_restoreState 32 = .ok (.aload_n 0, 1) := by decide +kernel
theorem dX11_restoreState_33 : decode cX11_restoreState 33 = .ok (.getfield 7, 3) := by decide +kernel
theorem dX11_restoreState_36 : decode cX11_restoreState 36 = .ok (.iconst 0, 1) := by decide +kernel
theorem dX11_restoreState_37 : decode cX11_restoreState 37 = .ok (.invokestatic 164, 3) := by decide +kernel
theorem dX11_restoreState_40 : decode cX11_restoreState 40 = .ok (.aload_n 0, 1) := by decide +kernel
theorem dX11_restoreState_41 : decode cX11_restoreState 41 = .ok (.iconst 0, 1) := by decide +kernel
theorem dX11_restoreState_42 : decode cX11_restoreState 42 = .ok (.putfield 161, 3) := by decide +kernel
theorem dX11_restoreState_45 : decode cX11_restoreState 45 = .ok (.aload_n 0, 1) := by decide +kernel
theorem dX11_restoreState_46 : decode cX11_restoreState 46 = .ok (.getfield 7, 3) := by decide +kernel
theorem dX11_restoreState_49 : decode cX11_restoreState 49 = .ok (.iconst 3, 1) := by decide +kernel
theorem dX11_restoreState_50 : decode cX11_restoreState 50 = .ok (.iaload, 1) := by decide +kernel
theorem dX11_restoreState_51 : decode cX11_restoreState 51 = .ok (.ireturn, 1) := by decide +kernel
theorem dJ5_init_d00df_0 : decode cJ5_init_d00df 0 = .ok (.aload_n 0, 1) := by decide +kernel
theorem dJ5_init_d00df_1 : decode cJ5_init_d00df 1 = .ok (.invokespecial 3, 3) := by decide +kernel
theorem dJ5_init_d00df_4 : decode cJ5_init_d00df 4 = .ok (.getstatic 18, 3) := by decide +kernel
theorem dJ5_init_d00df_7 : decode cJ5_init_d00df 7 = .ok (.ifCond .eq 18, 3) := by decide +kernel
theorem dJ5_init_d00df_10 : decode cJ5_init_d00df 10 = .ok (.aload_n 0, 1) := by decide +kernel
theorem dJ5_init_d00df_11 : decode cJ5_init_d00df 11 = .ok (.iload_n 1, 1) := by decide +kernel
theorem dJ5_init_d00df_12 : decode cJ5_init_d00df 12 = .ok (.newarray .byte, 2) := by decide +kernel
theorem dJ5_init_d00df_14 : decode cJ5_init_d00df 14 = .ok (.putfield 15, 3) := by decide +kernel
theorem dJ5_init_d00df_17 : decode cJ5_init_d00df 17 = .ok (.aload_n 0, 1) := by decide +kernel
theorem dJ5_init_d00df_18 : decode cJ5_init_d00df 18 = .ok (.iconst 0, 1) := by decide +kernel
theorem dJ5_init_d00df_19 : decode cJ5_init_d00df 19 = .ok (.putfield 22, 3) := by decide +kernel
theorem dJ5_init_d00df_22 : decode cJ5_init_d00df 22 = .ok (.goto 16, 3) := by decide +kernel
theorem dJ5_init_d00df_25 : decode cJ5_init_d00df 25 = .ok (.aload_n 0, 1) := by decide +kernel
theorem dJ5_init_d00df_26 : decode cJ5_init_d00df 26 = .ok (.iload_n 1, 1) := by decide +kernel
theorem dJ5_init_d00df_27 : decode cJ5_init_d00df 27 = .ok (.invokestatic 26, 3) := by decide +kernel
theorem dJ5_init_d00df_30 : decode cJ5_init_d00df 30 = .ok (.putfield 15, 3) := by decide +kernel
theorem dJ5_init_d00df_33 : decode cJ5_init_d00df 33 = .ok (.aload_n 0, 1) := by decide +kernel
theorem dJ5_init_d00df_34 : decode cJ5_init_d00df 34 = .ok (.iconst 1, 1) := by decide +kernel
theorem dJ5_init_d00df_35 : decode cJ5_init_d00df 35 = .ok (.putfield 22, 3) := by decide +kernel
theorem dJ5_init_d00df_38 : decode cJ5_init_d00df 38 = .ok (.return_, 1) := by decide +kernel
theorem dJ5_length_8abf5_0 : decode cJ5_length_8abf5 0 = .ok (.aload_n 0, 1) := by decide +kernel
theorem dJ5_length_8abf5_1 : decode cJ5_length_8abf5 1 = .ok (.getfield 79, 3) := by decide +kernel
theorem dJ5_length_8abf5_4 : decode cJ5_length_8abf5 4 = .ok (.ireturn, 1) := by decide +kernel
theorem dJ5_ensureCapacityInternal_d00df_0 : decode cJ5_ensureCapacityInternal_d00df 0 = .ok (.aload_n 0, 1) := by decide +kernel
theorem dJ5_ensureCapacityInternal_d00df_1 : decode cJ5_ensureCapacityInternal_d00df 1 = .ok (.getfield 15, 3) := by decide +kernel
theorem dJ5_ensureCapacityInternal_d00df_4 : decode cJ5_ensureCapacityInternal_d00df 4 = .ok (.arraylength, 1) := by decide +kernel
theorem dJ5_ensureCapacityInternal_d00df_5 : decode cJ5_ensureCapacityInternal_d00df 5 = .ok (.aload_n 0, 1) := by decide +kernel
theorem dJ5_ensureCapacityInternal_d00df_6 : decode cJ5_ensureCapacityInternal_d00df 6 = .ok (.getfield 22, 3) := by decide +kernel
theorem dJ5_ensureCapacityInternal_d00df_9 : decode cJ5_ensureCapacityInternal_d00df 9 = .ok (.ishr, 1) := by decide +kernel
theorem dJ5_ensureCapacityInternal_d00df_10 : decode cJ5_ensureCapacityInternal_d00df 10 = .ok (.istore_n 2, 1) := by decide +kernel
theorem dJ5_ensureCapacityInternal_d00df_11 : decode cJ5_ensureCapacityInternal_d00df 11 = .ok (.iload_n 1, 1) := by decide +kernel
theorem dJ5_ensureCapacityInternal_d00df_12 : decode cJ5_ensureCapacityInternal_d00df 12 = .ok (.iload_n 2, 1) := by decide +kernel
theorem dJ5_ensureCapacityInternal_d00df_13 : decode cJ5_ensureCapacityInternal_d00df 13 = .ok (.isub, 1) := by decide +kernel
theorem dJ5_ensureCapacityInternal_d00df_14 : decode cJ5_ensureCapacityInternal_d00df 14 = .ok (.ifCond .le 24, 3) := by decide +kernel
theorem dJ5_ensureCapacityInternal_d00df_17 : decode cJ5_ensureCapacityInternal_d00df 17 = .ok (.aload_n 0, 1) := by decide +kernel
theorem dJ5_ensureCapacityInternal_d00df_18 : decode cJ5_ensureCapacityInternal_d00df 18 = .ok (.aload_n 0, 1) := by decide +kernel
theorem dJ5_ensureCapacityInternal_d00df_19 : decode cJ5_ensureCapacityInternal_d00df 19 = .ok (.getfield 15, 3) := by decide +kernel
theorem dJ5_ensureCapacityInternal_d00df_22 : decode cJ5_ensureCapacityInternal_d00df 22 = .ok (.aload_n 0, 1) := by decide +kernel
theorem dJ5_ensureCapacityInternal_d00df_23 : decode cJ5_ensureCapacityInternal_d00df 23 = .ok (.iload_n 1, 1) := by decide +kernel
theorem dJ5_ensureCapacityInternal_d00df_24 : decode cJ5_ensureCapacityInternal_d00df 24 = .ok (.invokevirtual 104, 3) := by decide +kernel
theorem dJ5_ensureCapacityInternal_d00df_27 : decode cJ5_ensureCapacityInternal_d00df 27 = .ok (.aload_n 0, 1) := by decide +kernel
theorem dJ5_ensureCapacityInternal_d00df_28 : decode cJ5_ensureCapacityInternal_d00df 28 = .ok (.getfield 22, 3) := by decide +kernel
theorem dJ5_ensureCapacityInternal_d00df_31 : decode cJ5_ensureCapacityInternal_d00df 31 = .ok (.ishl, 1) := by decide +kernel
theorem dJ5_ensureCapacityInternal_d00df_32 : decode cJ5_ensureCapacityInternal_d00df 32 = .ok (.invokestatic 108, 3) := by decide +kernel
theorem dJ5_ensureCapacityInternal_d00df_35 : decode cJ5_ensureCapacityInternal_d00df 35 = .ok (.putfield 15, 3) := by decide +kernel
theorem dJ5_ensureCapacityInternal_d00df_38 : decode cJ5_ensureCapacityInternal_d00df 38 = .ok (.return_, 1) := by decide +kernel
theorem dJ5_newCapacity_0f7a4_0 : decode cJ5_newCapacity_0f7a4 0 = .ok (.aload_n 0, 1) := by decide +kernel
theorem dJ5_newCapacity_0f7a4_1 : decode cJ5_newCapacity_0f7a4 1 = .ok (.getfield 15, 3) := by decide +kernel
theorem dJ5_newCapacity_0f7a4_4 : decode cJ5_newCapacity_0f7a4 4 = .ok (.arraylength, 1) := by decide +kernel
theorem dJ5_newCapacity_0f7a4_5 : decode cJ5_newCapacity_0f7a4 5 = .ok (.istore_n 2, 1) := by decide +kernel
theorem dJ5_newCapacity_0f7a4_6 : decode cJ5_newCapacity_0f7a4 6 = .ok (.iload_n 1, 1) := by decide +kernel
theorem dJ5_newCapacity_0f7a4_7 : decode cJ5_newCapacity_0f7a4 7 = .ok (.aload_n 0, 1) := by decide +kernel
theorem dJ5_newCapacity_0f7a4_8 : decode cJ5_newCapacity_0f7a4 8 = .ok (.getfield 22, 3) := by decide +kernel
theorem dJ5_newCapacity_0f7a4_11 : decode cJ5_newCapacity_0f7a4 11 = .ok (.ishl, 1) := by decide +kernel
theorem dJ5_newCapacity_0f7a4_12 : decode cJ5_newCapacity_0f7a4 12 = .ok (.istore_n 3, 1) := by decide +kernel
theorem dJ5_newCapacity_0f7a4_13 : decode cJ5_newCapacity_0f7a4 13 = .ok (.iload_n 3, 1) := by decide +kernel
theorem dJ5_newCapacity_0f7a4_14 : decode cJ5_newCapacity_0f7a4 14 = .ok (.iload_n 2, 1) := by decide +kernel
theorem dJ5_newCapacity_0f7a4_15 : decode cJ5_newCapacity_0f7a4 15 = .ok (.isub, 1) := by decide +kernel
theorem dJ5_newCapacity_0f7a4_16 : decode cJ5_newCapacity_0f7a4 16 = .ok (.istore 4, 2) := by decide +kernel
theorem dJ5_newCapacity_0f7a4_18 : decode cJ5_newCapacity_0f7a4 18 = .ok (.iload_n 2, 1) := by decide +kernel
theorem dJ5_newCapacity_0f7a4_19 : decode cJ5_newCapacity_0f7a4 19 = .ok (.iload 4, 2) := by decide +kernel
theorem dJ5_newCapacity_0f7a4_21 : decode cJ5_newCapacity_0f7a4 21 = .ok (.iload_n 2, 1) := by decide +kernel
theorem dJ5_newCapacity_0f7a4_22 : decode cJ5_newCapacity_0f7a4 22 = .ok (.iconst 2, 1) := by decide +kernel
theorem dJ5_newCapacity_0f7a4_23 : decode cJ5_newCapacity_0f7a4 23 = .ok (.aload_n 0, 1) := by decide +kernel
theorem dJ5_newCapacity_0f7a4_24 : decode cJ5_newCapacity_0f7a4 24 = .ok (.getfield 22, 3) := by decide +kernel
theorem dJ5_newCapacity_0f7a4_27 : decode cJ5_newCapacity_0f7a4 27 = .ok (.ishl, 1) := by decide +kernel
theorem dJ5_newCapacity_0f7a4_28 : decode cJ5_newCapacity_0f7a4 28 = .ok (.iadd, 1) := by decide +kernel
theorem dJ5_newCapacity_0f7a4_29 : decode cJ5_newCapacity_0f7a4 29 = .ok (.invokestatic 114, 3) := by decide +kernel
theorem dJ5_newCapacity_0f7a4_32 : decode cJ5_newCapacity_0f7a4 32 = .ok (.istore 5, 2) := by decide +kernel
theorem dJ5_newCapacity_0f7a4_34 : decode cJ5_newCapacity_0f7a4 34 = .ok (.iload 5, 2) := by decide +kernel
theorem dJ5_newCapacity_0f7a4_36 : decode cJ5_newCapacity_0f7a4 36 = .ok (.ldc 39, 2) := by decide +kernel
theorem dJ5_newCapacity_0f7a4_38 : decode cJ5_newCapacity_0f7a4 38 = .ok (.if_icmp .ne 13, 3) := by decide +kernel
theorem dJ5_newCapacity_0f7a4_41 : decode cJ5_newCapacity_0f7a4 41 = .ok (.new 120, 3) := by decide +kernel
theorem dJ5_newCapacity_0f7a4_44 : decode cJ5_newCapacity_0f7a4 44 = .ok (.dup, 1) := by decide +kernel
theorem dJ5_newCapacity_0f7a4_45 : decode cJ5_newCapacity_0f7a4 45 = .ok (.ldc 122, 2) := by decide +kernel
theorem dJ5_newCapacity_0f7a4_47 : decode cJ5_newCapacity_0f7a4 47 = .ok (.invokespecial 124, 3) := by decide +kernel
theorem dJ5_newCapacity_0f7a4_50 : decode cJ5_newCapacity_0f7a4 50 = .ok (.athrow, 1) := by decide +kernel
theorem dJ5_newCapacity_0f7a4_51 : decode cJ5_newCapacity_0f7a4 51 = .ok (.iload 5, 2) := by decide +kernel
theorem dJ5_newCapacity_0f7a4_53 : decode cJ5_newCapacity_0f7a4 53 = .ok (.aload_n 0, 1) := by decide +kernel
theorem dJ5_newCapacity_0f7a4_54 : decode cJ5_newCapacity_0f7a4 54 = .ok (.getfield 22, 3) := by decide +kernel
theorem dJ5_newCapacity_0f7a4_57 : decode cJ5_newCapacity_0f7a4 57 = .ok (.ishr, 1) := by decide +kernel
theorem dJ5_newCapacity_0f7a4_58 : decode cJ5_newCapacity_0f7a4 58 = .ok (.ireturn, 1) := by decide +kernel
theorem dJ5_inflate_da8c8_0 : decode cJ5_inflate_da8c8 0 = .ok (.aload_n 0, 1) := by decide +kernel
theorem dJ5_inflate_da8c8_1 : decode cJ5_inflate_da8c8 1 = .ok (.invokevirtual 83, 3) := by decide +kernel
theorem dJ5_inflate_da8c8_4 : decode cJ5_inflate_da8c8 4 = .ok (.ifCond .ne 4, 3) := by decide +kernel
theorem dJ5_inflate_da8c8_7 : decode cJ5_inflate_da8c8 7 = .ok (.return_, 1) := by decide +kernel
theorem dJ5_inflate_da8c8_8 : decode cJ5_inflate_da8c8 8 = .ok (.aload_n 0, 1) := by decide +kernel
theorem dJ5_inflate_da8c8_9 : decode cJ5_inflate_da8c8 9 = .ok (.getfield 15, 3) := by decide +kernel
theorem dJ5_inflate_da8c8_12 : decode cJ5_inflate_da8c8 12 = .ok (.arraylength, 1) := by decide +kernel
theorem dJ5_inflate_da8c8_13 : decode cJ5_inflate_da8c8 13 = .ok (.invokestatic 26, 3) := by decide +kernel
theorem dJ5_inflate_da8c8_16 : decode cJ5_inflate_da8c8 16 = .ok (.astore_n 1, 1) := by decide +kernel
theorem dJ5_inflate_da8c8_17 : decode cJ5_inflate_da8c8 17 = .ok (.aload_n 0, 1) := by decide +kernel
theorem dJ5_inflate_da8c8_18 : decode cJ5_inflate_da8c8 18 = .ok (.getfield 15, 3) := by decide +kernel
theorem dJ5_inflate_da8c8_21 : decode cJ5_inflate_da8c8 21 = .ok (.iconst 0, 1) := by decide +kernel
theorem dJ5_inflate_da8c8_22 : decode cJ5_inflate_da8c8 22 = .ok (.aload_n 1, 1) := by decide +kernel
theorem dJ5_inflate_da8c8_23 : decode cJ5_inflate_da8c8 23 = .ok (.iconst 0, 1) := by decide +kernel
theorem dJ5_inflate_da8c8_24 : decode cJ5_inflate_da8c8 24 = .ok (.aload_n 0, 1) := by decide +kernel
theorem dJ5_inflate_da8c8_25 : decode cJ5_inflate_da8c8 25 = .ok (.getfield 79, 3) := by decide +kernel
theorem dJ5_inflate_da8c8_28 : decode cJ5_inflate_da8c8 28 = .ok (.invokestatic 125, 3) := by decide +kernel
theorem dJ5_inflate_da8c8_31 : decode cJ5_inflate_da8c8 31 = .ok (.aload_n 0, 1) := by decide +kernel
theorem dJ5_inflate_da8c8_32 : decode cJ5_inflate_da8c8 32 = .ok (.aload_n 1, 1) := by decide +kernel
theorem dJ5_inflate_da8c8_33 : decode cJ5_inflate_da8c8 33 = .ok (.putfield 15, 3) := by decide +kernel
theorem dJ5_inflate_da8c8_36 : decode cJ5_inflate_da8c8 36 = .ok (.aload_n 0, 1) := by decide +kernel
theorem dJ5_inflate_da8c8_37 : decode cJ5_inflate_da8c8 37 = .ok (.iconst 1, 1) := by decide +kernel
theorem dJ5_inflate_da8c8_38 : decode cJ5_inflate_da8c8 38 = .ok (.putfield 22, 3) := by decide +kernel
theorem dJ5_inflate_da8c8_41 : decode cJ5_inflate_da8c8 41 = .ok (.return_, 1) := by decide +kernel
theorem dJ5_setLength_d00df_0 : decode cJ5_setLength_d00df 0 = .ok (.iload_n 1, 1) := by decide +kernel
theorem dJ5_setLength_d00df_1 : decode cJ5_setLength_d00df 1 = .ok (.ifCond .ge 12, 3) := by decide +kernel
theorem dJ5_setLength_d00df_4 : decode cJ5_setLength_d00df 4 = .ok (.new 129, 3) := by decide +kernel
theorem dJ5_setLength_d00df_7 : decode cJ5_setLength_d00df 7 = .ok (.dup, 1) := by decide +kernel
theorem dJ5_setLength_d00df_8 : decode cJ5_setLength_d00df 8 = .ok (.iload_n 1, 1) := by decide +kernel
theorem dJ5_setLength_d00df_9 : decode cJ5_setLength_d00df 9 = .ok (.invokespecial 131, 3) := by decide +kernel
theorem dJ5_setLength_d00df_12 : decode cJ5_setLength_d00df 12 = .ok (.athrow, 1) := by decide +kernel
theorem dJ5_setLength_d00df_13 : decode cJ5_setLength_d00df 13 = .ok (.aload_n 0, 1) := by decide +kernel
theorem dJ5_setLength_d00df_14 : decode cJ5_setLength_d00df 14 = .ok (.iload_n 1, 1) := by decide +kernel
theorem dJ5_setLength_d00df_15 : decode cJ5_setLength_d00df 15 = .ok (.invokevirtual 100, 3) := by decide +kernel
theorem dJ5_setLength_d00df_18 : decode cJ5_setLength_d00df 18 = .ok (.aload_n 0, 1) := by decide +kernel
theorem dJ5_setLength_d00df_19 : decode cJ5_setLength_d00df 19 = .ok (.getfield 79, 3) := by decide +kernel
theorem dJ5_setLength_d00df_22 : decode cJ5_setLength_d00df 22 = .ok (.iload_n 1, 1) := by decide +kernel
theorem dJ5_setLength_d00df_23 : decode cJ5_setLength_d00df 23 = .ok (.if_icmp .ge 40, 3) := by decide +kernel
theorem dJ5_setLength_d00df_26 : decode cJ5_setLength_d00df 26 = .ok (.aload_n 0, 1) := by decide +kernel
theorem dJ5_setLength_d00df_27 : decode cJ5_setLength_d00df 27 = .ok (.invokevirtual 83, 3) := by decide +kernel
theorem dJ5_setLength_d00df_30 : decode cJ5_setLength_d00df 30 = .ok (.ifCond .eq 18, 3) := by decide +kernel
theorem dJ5_setLength_d00df_33 : decode cJ5_setLength_d00df 33 = .ok (.aload_n 0, 1) := by decide +kernel
theorem dJ5_setLength_d00df_34 : decode cJ5_setLength_d00df 34 = .ok (.getfield 15, 3) := by decide +kernel
theorem dJ5_setLength_d00df_37 : decode cJ5_setLength_d00df 37 = .ok (.aload_n 0, 1) := by decide +kernel
theorem dJ5_setLength_d00df_38 : decode cJ5_setLength_d00df 38 = .ok (.getfield 79, 3) := by decide +kernel
theorem dJ5_setLength_d00df_41 : decode cJ5_setLength_d00df 41 = .ok (.iload_n 1, 1) := by decide +kernel
theorem dJ5_setLength_d00df_42 : decode cJ5_setLength_d00df 42 = .ok (.invokestatic 133, 3) := by decide +kernel
theorem dJ5_setLength_d00df_45 : decode cJ5_setLength_d00df 45 = .ok (.goto 31, 3) := by decide +kernel
theorem dJ5_setLength_d00df_48 : decode cJ5_setLength_d00df 48 = .ok (.aload_n 0, 1) := by decide +kernel
theorem dJ5_setLength_d00df_49 : decode cJ5_setLength_d00df 49 = .ok (.getfield 15, 3) := by decide +kernel
theorem dJ5_setLength_d00df_52 : decode cJ5_setLength_d00df 52 = .ok (.aload_n 0, 1) := by decide +kernel
theorem dJ5_setLength_d00df_53 : decode cJ5_setLength_d00df 53 = .ok (.getfield 79, 3) := by decide +kernel
theorem dJ5_setLength_d00df_56 : decode cJ5_setLength_d00df 56 = .ok (.iload_n 1, 1) := by decide +kernel
theorem dJ5_setLength_d00df_57 : decode cJ5_setLength_d00df 57 = .ok (.invokestatic 137, 3) := by decide +kernel
theorem dJ5_setLength_d00df_60 : decode cJ5_setLength_d00df 60 = .ok (.goto 16, 3) := by decide +kernel
theorem dJ5_setLength_d00df_63 : decode cJ5_setLength_d00df 63 = .ok (.aload_n 0, 1) := by decide +kernel
theorem dJ5_setLength_d00df_64 : decode cJ5_setLength_d00df 64 = .ok (.getfield 79, 3) := by decide +kernel
theorem dJ5_setLength_d00df_67 : decode cJ5_setLength_d00df 67 = .ok (.iload_n 1, 1) := by decide +kernel
theorem dJ5_setLength_d00df_68 : decode cJ5_setLength_d00df 68 = .ok (.if_icmp .le 8, 3) := by decide +kernel
theorem dJ5_setLength_d00df_71 : decode cJ5_setLength_d00df 71 = .ok (.aload_n 0, 1) := by decide +kernel
theorem dJ5_setLength_d00df_72 : decode cJ5_setLength_d00df 72 = .ok (.iconst 1, 1) := by decide +kernel
theorem dJ5_setLength_d00df_73 : decode cJ5_setLength_d00df 73 = .ok (.putfield 73, 3) := by decide +kernel
theorem dJ5_setLength_d00df_76 : decode cJ5_setLength_d00df 76 = .ok (.aload_n 0, 1) := by decide +kernel
theorem dJ5_setLength_d00df_77 : decode cJ5_setLength_d00df 77 = .ok (.iload_n 1, 1) := by decide +kernel
theorem dJ5_setLength_d00df_78 : decode cJ5_setLength_d00df 78 = .ok (.putfield 79, 3) := by decide +kernel
theorem dJ5_setLength_d00df_81 : decode cJ5_setLength_d00df 81 = .ok (.return_, 1) := by decide +kernel
theorem dJ5_append_cf1ce_0 : decode cJ5_append_cf1ce 0 = .ok (.aload_n 1, 1) := by decide +kernel
theorem dJ5_append_cf1ce_1 : decode cJ5_append_cf1ce 1 = .ok (.ifnonnull 8, 3) := by decide +kernel
theorem dJ5_append_cf1ce_4 : decode cJ5_append_cf1ce 4 = .ok (.aload_n 0, 1) := by decide +kernel
theorem dJ5_append_cf1ce_5 : decode cJ5_append_cf1ce 5 = .ok (.invokevirtual 204, 3) := by decide +kernel
theorem dJ5_append_cf1ce_8 : decode cJ5_append_cf1ce 8 = .ok (.areturn, 1) := by decide +kernel
theorem dJ5_append_cf1ce_9 : decode cJ5_append_cf1ce 9 = .ok (.aload_n 1, 1) := by decide +kernel
theorem dJ5_append_cf1ce_10 : decode cJ5_append_cf1ce 10 = .ok (.invokevirtual 32, 3) := by decide +kernel
theorem dJ5_append_cf1ce_13 : decode cJ5_append_cf1ce 13 = .ok (.istore_n 2, 1) := by decide +kernel
theorem dJ5_append_cf1ce_14 : decode cJ5_append_cf1ce 14 = .ok (.aload_n 0, 1) := by decide +kernel
theorem dJ5_append_cf1ce_15 : decode cJ5_append_cf1ce 15 = .ok (.aload_n 0, 1) := by decide +kernel
theorem dJ5_append_cf1ce_16 : decode cJ5_append_cf1ce 16 = .ok (.getfield 79, 3) := by decide +kernel
theorem dJ5_append_cf1ce_19 : decode cJ5_append_cf1ce 19 = .ok (.iload_n 2, 1) := by decide +kernel
theorem dJ5_append_cf1ce_20 : decode cJ5_append_cf1ce 20 = .ok (.iadd, 1) := by decide +kernel
theorem dJ5_append_cf1ce_21 : decode cJ5_append_cf1ce 21 = .ok (.invokevirtual 100, 3) := by decide +kernel
theorem dJ5_append_cf1ce_24 : decode cJ5_append_cf1ce 24 = .ok (.aload_n 0, 1) := by decide +kernel
theorem dJ5_append_cf1ce_25 : decode cJ5_append_cf1ce 25 = .ok (.aload_n 0, 1) := by decide +kernel
theorem dJ5_append_cf1ce_26 : decode cJ5_append_cf1ce 26 = .ok (.getfield 79, 3) := by decide +kernel
theorem dJ5_append_cf1ce_29 : decode cJ5_append_cf1ce 29 = .ok (.aload_n 1, 1) := by decide +kernel
theorem dJ5_append_cf1ce_30 : decode cJ5_append_cf1ce 30 = .ok (.invokevirtual 208, 3) := by decide +kernel
theorem dJ5_append_cf1ce_33 : decode cJ5_append_cf1ce 33 = .ok (.aload_n 0, 1) := by decide +kernel
theorem dJ5_append_cf1ce_34 : decode cJ5_append_cf1ce 34 = .ok (.dup, 1) := by decide +kernel
theorem dJ5_append_cf1ce_35 : decode cJ5_append_cf1ce 35 = .ok (.getfield 79, 3) := by decide +kernel
theorem dJ5_append_cf1ce_38 : decode cJ5_append_cf1ce 38 = .ok (.iload_n 2, 1) := by decide +kernel
theorem dJ5_append_cf1ce_39 : decode cJ5_append_cf1ce 39 = .ok (.iadd, 1) := by decide +kernel
theorem dJ5_append_cf1ce_40 : decode cJ5_append_cf1ce 40 = .ok (.putfield 79, 3) := by decide +kernel
theorem dJ5_append_cf1ce_43 : decode cJ5_append_cf1ce 43 = .ok (.aload_n 0, 1) := by decide +kernel
theorem dJ5_append_cf1ce_44 : decode cJ5_append_cf1ce 44 = .ok (.areturn, 1) := by decide +kernel
theorem dJ5_appendNull_278bc_0 : decode cJ5_appendNull_278bc 0 = .ok (.aload_n 0, 1) := by decide +kernel
theorem dJ5_appendNull_278bc_1 : decode cJ5_appendNull_278bc 1 = .ok (.aload_n 0, 1) := by decide +kernel
theorem dJ5_appendNull_278bc_2 : decode cJ5_appendNull_278bc 2 = .ok (.getfield 79, 3) := by decide +kernel
theorem dJ5_appendNull_278bc_5 : decode cJ5_appendNull_278bc 5 = .ok (.iconst 4, 1) := by decide +kernel
theorem dJ5_appendNull_278bc_6 : decode cJ5_appendNull_278bc 6 = .ok (.iadd, 1) := by decide +kernel
theorem dJ5_appendNull_278bc_7 : decode cJ5_appendNull_278bc 7 = .ok (.invokevirtual 100, 3) := by decide +kernel
theorem dJ5_appendNull_278bc_10 : decode cJ5_appendNull_278bc 10 = .ok (.aload_n 0, 1) := by decide +kernel
theorem dJ5_appendNull_278bc_11 : decode cJ5_appendNull_278bc 11 = .ok (.getfield 79, 3) := by decide +kernel
theorem dJ5_appendNull_278bc_14 : decode cJ5_appendNull_278bc 14 = .ok (.istore_n 1, 1) := by decide +kernel
theorem dJ5_appendNull_278bc_15 : decode cJ5_appendNull_278bc 15 = .ok (.aload_n 0, 1) := by decide +kernel
theorem dJ5_appendNull_278bc_16 : decode cJ5_appendNull_278bc 16 = .ok (.getfield 15, 3) := by decide +kernel
theorem dJ5_appendNull_278bc_19 : decode cJ5_appendNull_278bc 19 = .ok (.astore_n 2, 1) := by decide +kernel
theorem dJ5_appendNull_278bc_20 : decode cJ5_appendNull_278bc 20 = .ok (.aload_n 0, 1) := by decide +kernel
theorem dJ5_appendNull_278bc_21 : decode cJ5_appendNull_278bc 21 = .ok (.invokevirtual 83, 3) := by decide +kernel
theorem dJ5_appendNull_278bc_24 : decode cJ5_appendNull_278bc 24 = .ok (.ifCond .eq 38, 3) := by decide +kernel
theorem dJ5_appendNull_278bc_27 : decode cJ5_appendNull_278bc 27 = .ok (.aload_n 2, 1) := by decide +kernel
theorem dJ5_appendNull_278bc_28 : decode cJ5_appendNull_278bc 28 = .ok (.iload_n 1, 1) := by decide +kernel
theorem dJ5_appendNull_278bc_29 : decode cJ5_appendNull_278bc 29 = .ok (.iinc 1 1, 3) := by decide +kernel
theorem dJ5_appendNull_278bc_32 : decode cJ5_appendNull_278bc 32 = .ok (.bipush 110, 2) := by decide +kernel
theorem dJ5_appendNull_278bc_34 : decode cJ5_appendNull_278bc 34 = .ok (.bastore, 1) := by decide +kernel
theorem dJ5_appendNull_278bc_35 : decode cJ5_appendNull_278bc 35 = .ok (.aload_n 2, 1) := by decide +kernel
theorem dJ5_appendNull_278bc_36 : decode cJ5_appendNull_278bc 36 = .ok (.iload_n 1, 1) := by decide +kernel
theorem dJ5_appendNull_278bc_37 : decode cJ5_appendNull_278bc 37 = .ok (.iinc 1 1, 3) := by decide +kernel
theorem dJ5_appendNull_278bc_40 : decode cJ5_appendNull_278bc 40 = .ok (.bipush 117, 2) := by decide +kernel
theorem dJ5_appendNull_278bc_42 : decode cJ5_appendNull_278bc 42 = .ok (.bastore, 1) := by decide +kernel
theorem dJ5_appendNull_278bc_43 : decode cJ5_appendNull_278bc 43 = .ok (.aload_n 2, 1) := by decide +kernel
theorem dJ5_appendNull_278bc_44 : decode cJ5_appendNull_278bc 44 = .ok (.iload_n 1, 1) := by decide +kernel
theorem dJ5_appendNull_278bc_45 : decode cJ5_appendNull_278bc 45 = .ok (.iinc 1 1, 3) := by decide +kernel
theorem dJ5_appendNull_278bc_48 : decode cJ5_appendNull_278bc 48 = .ok (.bipush 108, 2) := by decide +kernel
theorem dJ5_appendNull_278bc_50 : decode cJ5_appendNull_278bc 50 = .ok (.bastore, 1) := by decide +kernel
theorem dJ5_appendNull_278bc_51 : decode cJ5_appendNull_278bc 51 = .ok (.aload_n 2, 1) := by decide +kernel
theorem dJ5_appendNull_278bc_52 : decode cJ5_appendNull_278bc 52 = .ok (.iload_n 1, 1) := by decide +kernel
theorem dJ5_appendNull_278bc_53 : decode cJ5_appendNull_278bc 53 = .ok (.iinc 1 1, 3) := by decide +kernel
theorem dJ5_appendNull_278bc_56 : decode cJ5_appendNull_278bc 56 = .ok (.bipush 108, 2) := by decide +kernel
theorem dJ5_appendNull_278bc_58 : decode cJ5_appendNull_278bc 58 = .ok (.bastore, 1) := by decide +kernel
theorem dJ5_appendNull_278bc_59 : decode cJ5_appendNull_278bc 59 = .ok (.goto 17, 3) := by decide +kernel
theorem dJ5_appendNull_278bc_62 : decode cJ5_appendNull_278bc 62 = .ok (.aload_n 2, 1) := by decide +kernel
theorem dJ5_appendNull_278bc_63 : decode cJ5_appendNull_278bc 63 = .ok (.iload_n 1, 1) := by decide +kernel
theorem dJ5_appendNull_278bc_64 : decode cJ5_appendNull_278bc 64 = .ok (.bipush 110, 2) := by decide +kernel
theorem dJ5_appendNull_278bc_66 : decode cJ5_appendNull_278bc 66 = .ok (.bipush 117, 2) := by decide +kernel
theorem dJ5_appendNull_278bc_68 : decode cJ5_appendNull_278bc 68 = .ok (.bipush 108, 2) := by decide +kernel
theorem dJ5_appendNull_278bc_70 : decode cJ5_appendNull_278bc 70 = .ok (.bipush 108, 2) := by decide +kernel
theorem dJ5_appendNull_278bc_72 : decode cJ5_appendNull_278bc 72 = .ok (.invokestatic 226, 3) := by decide +kernel
theorem dJ5_appendNull_278bc_75 : decode cJ5_appendNull_278bc 75 = .ok (.istore_n 1, 1) := by decide +kernel
theorem dJ5_appendNull_278bc_76 : decode cJ5_appendNull_278bc 76 = .ok (.aload_n 0, 1) := by decide +kernel
theorem dJ5_appendNull_278bc_77 : decode cJ5_appendNull_278bc 77 = .ok (.iload_n 1, 1) := by decide +kernel
theorem dJ5_appendNull_278bc_78 : decode cJ5_appendNull_278bc 78 = .ok (.putfield 79, 3) := by decide +kernel
theorem dJ5_appendNull_278bc_81 : decode cJ5_appendNull_278bc 81 = .ok (.aload_n 0, 1) := by decide +kernel
theorem dJ5_appendNull_278bc_82 : decode cJ5_appendNull_278bc 82 = .ok (.areturn, 1) := by decide +kernel
theorem dJ5_append_3fe6f_0 : decode cJ5_append_3fe6f 0 = .ok (.aload_n 0, 1) := by decide +kernel
theorem dJ5_append_3fe6f_1 : decode cJ5_append_3fe6f 1 = .ok (.aload_n 0, 1) := by decide +kernel
theorem dJ5_append_3fe6f_2 : decode cJ5_append_3fe6f 2 = .ok (.getfield 79, 3) := by decide +kernel
theorem dJ5_append_3fe6f_5 : decode cJ5_append_3fe6f 5 = .ok (.iconst 1, 1) := by decide +kernel
theorem dJ5_append_3fe6f_6 : decode cJ5_append_3fe6f 6 = .ok (.iadd, 1) := by decide +kernel
theorem dJ5_append_3fe6f_7 : decode cJ5_append_3fe6f 7 = .ok (.invokevirtual 100, 3) := by decide +kernel
theorem dJ5_append_3fe6f_10 : decode cJ5_append_3fe6f 10 = .ok (.aload_n 0, 1) := by decide +kernel
theorem dJ5_append_3fe6f_11 : decode cJ5_append_3fe6f 11 = .ok (.invokevirtual 83, 3) := by decide +kernel
theorem dJ5_append_3fe6f_14 : decode cJ5_append_3fe6f 14 = .ok (.ifCond .eq 31, 3) := by decide +kernel
theorem dJ5_append_3fe6f_17 : decode cJ5_append_3fe6f 17 = .ok (.iload_n 1, 1) := by decide +kernel
theorem dJ5_append_3fe6f_18 : decode cJ5_append_3fe6f 18 = .ok (.invokestatic 191, 3) := by decide +kernel
theorem dJ5_append_3fe6f_21 : decode cJ5_append_3fe6f 21 = .ok (.ifCond .eq 24, 3) := by decide +kernel
theorem dJ5_append_3fe6f_24 : decode cJ5_append_3fe6f 24 = .ok (.aload_n 0, 1) := by decide +kernel
theorem dJ5_append_3fe6f_25 : decode cJ5_append_3fe6f 25 = .ok (.getfield 15, 3) := by decide +kernel
theorem dJ5_append_3fe6f_28 : decode cJ5_append_3fe6f 28 = .ok (.aload_n 0, 1) := by decide +kernel
theorem dJ5_append_3fe6f_29 : decode cJ5_append_3fe6f 29 = .ok (.dup, 1) := by decide +kernel
theorem dJ5_append_3fe6f_30 : decode cJ5_append_3fe6f 30 = .ok (.getfield 79, 3) := by decide +kernel
theorem dJ5_append_3fe6f_33 : decode cJ5_append_3fe6f 33 = .ok (.dup_x1, 1) := by decide +kernel
theorem dJ5_append_3fe6f_34 : decode cJ5_append_3fe6f 34 = .ok (.iconst 1, 1) := by decide +kernel
theorem dJ5_append_3fe6f_35 : decode cJ5_append_3fe6f 35 = .ok (.iadd, 1) := by decide +kernel
theorem dJ5_append_3fe6f_36 : decode cJ5_append_3fe6f 36 = .ok (.putfield 79, 3) := by decide +kernel
theorem dJ5_append_3fe6f_39 : decode cJ5_append_3fe6f 39 = .ok (.iload_n 1, 1) := by decide +kernel
theorem dJ5_append_3fe6f_40 : decode cJ5_append_3fe6f 40 = .ok (.i2b, 1) := by decide +kernel
theorem dJ5_append_3fe6f_41 : decode cJ5_append_3fe6f 41 = .ok (.bastore, 1) := by decide +kernel
theorem dJ5_append_3fe6f_42 : decode cJ5_append_3fe6f 42 = .ok (.goto 33, 3) := by decide +kernel
theorem dJ5_append_3fe6f_45 : decode cJ5_append_3fe6f 45 = .ok (.aload_n 0, 1) := by decide +kernel
theorem dJ5_append_3fe6f_46 : decode cJ5_append_3fe6f 46 = .ok (.invokevirtual 83, 3) := by decide +kernel
theorem dJ5_append_3fe6f_49 : decode cJ5_append_3fe6f 49 = .ok (.ifCond .eq 7, 3) := by decide +kernel
theorem dJ5_append_3fe6f_52 : decode cJ5_append_3fe6f 52 = .ok (.aload_n 0, 1) := by decide +kernel
theorem dJ5_append_3fe6f_53 : decode cJ5_append_3fe6f 53 = .ok (.invokevirtual 195, 3) := by decide +kernel
theorem dJ5_append_3fe6f_56 : decode cJ5_append_3fe6f 56 = .ok (.aload_n 0, 1) := by decide +kernel
theorem dJ5_append_3fe6f_57 : decode cJ5_append_3fe6f 57 = .ok (.getfield 15, 3) := by decide +kernel
theorem dJ5_append_3fe6f_60 : decode cJ5_append_3fe6f 60 = .ok (.aload_n 0, 1) := by decide +kernel
theorem dJ5_append_3fe6f_61 : decode cJ5_append_3fe6f 61 = .ok (.dup, 1) := by decide +kernel
theorem dJ5_append_3fe6f_62 : decode cJ5_append_3fe6f 62 = .ok (.getfield 79, 3) := by decide +kernel
theorem dJ5_append_3fe6f_65 : decode cJ5_append_3fe6f 65 = .ok (.dup_x1, 1) := by decide +kernel
theorem dJ5_append_3fe6f_66 : decode cJ5_append_3fe6f 66 = .ok (.iconst 1, 1) := by decide +kernel
theorem dJ5_append_3fe6f_67 : decode cJ5_append_3fe6f 67 = .ok (.iadd, 1) := by decide +kernel
theorem dJ5_append_3fe6f_68 : decode cJ5_append_3fe6f 68 = .ok (.putfield 79, 3) := by decide +kernel
theorem dJ5_append_3fe6f_71 : decode cJ5_append_3fe6f 71 = .ok (.iload_n 1, 1) := by decide +kernel
theorem dJ5_append_3fe6f_72 : decode cJ5_append_3fe6f 72 = .ok (.invokestatic 197, 3) := by decide +kernel
theorem dJ5_append_3fe6f_75 : decode cJ5_append_3fe6f 75 = .ok (.aload_n 0, 1) := by decide +kernel
theorem dJ5_append_3fe6f_76 : decode cJ5_append_3fe6f 76 = .ok (.areturn, 1) := by decide +kernel
theorem dJ5_append_c97b9_0 : decode cJ5_append_c97b9 0 = .ok (.aload_n 0, 1) := by decide +kernel
theorem dJ5_append_c97b9_1 : decode cJ5_append_c97b9 1 = .ok (.getfield 79, 3) := by decide +kernel
theorem dJ5_append_c97b9_4 : decode cJ5_append_c97b9 4 = .ok (.istore_n 2, 1) := by decide +kernel
theorem dJ5_append_c97b9_5 : decode cJ5_append_c97b9 5 = .ok (.iload_n 2, 1) := by decide +kernel
theorem dJ5_append_c97b9_6 : decode cJ5_append_c97b9 6 = .ok (.iload_n 1, 1) := by decide +kernel
theorem dJ5_append_c97b9_7 : decode cJ5_append_c97b9 7 = .ok (.invokestatic 245, 3) := by decide +kernel
theorem dJ5_append_c97b9_10 : decode cJ5_append_c97b9 10 = .ok (.iadd, 1) := by decide +kernel
theorem dJ5_append_c97b9_11 : decode cJ5_append_c97b9 11 = .ok (.istore_n 3, 1) := by decide +kernel
theorem dJ5_append_c97b9_12 : decode cJ5_append_c97b9 12 = .ok (.aload_n 0, 1) := by decide +kernel
theorem dJ5_append_c97b9_13 : decode cJ5_append_c97b9 13 = .ok (.iload_n 3, 1) := by decide +kernel
theorem dJ5_append_c97b9_14 : decode cJ5_append_c97b9 14 = .ok (.invokevirtual 100, 3) := by decide +kernel
theorem dJ5_append_c97b9_17 : decode cJ5_append_c97b9 17 = .ok (.aload_n 0, 1) := by decide +kernel
theorem dJ5_append_c97b9_18 : decode cJ5_append_c97b9 18 = .ok (.invokevirtual 83, 3) := by decide +kernel
theorem dJ5_append_c97b9_21 : decode cJ5_append_c97b9 21 = .ok (.ifCond .eq 16, 3) := by decide +kernel
theorem dJ5_append_c97b9_24 : decode cJ5_append_c97b9 24 = .ok (.iload_n 1, 1) := by decide +kernel
theorem dJ5_append_c97b9_25 : decode cJ5_append_c97b9 25 = .ok (.iload_n 3, 1) := by decide +kernel
theorem dJ5_append_c97b9_26 : decode cJ5_append_c97b9 26 = .ok (.aload_n 0, 1) := by decide +kernel
theorem dJ5_append_c97b9_27 : decode cJ5_append_c97b9 27 = .ok (.getfield 15, 3) := by decide +kernel
theorem dJ5_append_c97b9_30 : decode cJ5_append_c97b9 30 = .ok (.invokestatic 248, 3) := by decide +kernel
theorem dJ5_append_c97b9_33 : decode cJ5_append_c97b9 33 = .ok (.pop, 1) := by decide +kernel
theorem dJ5_append_c97b9_34 : decode cJ5_append_c97b9 34 = .ok (.goto 14, 3) := by decide +kernel
theorem dJ5_append_c97b9_37 : decode cJ5_append_c97b9 37 = .ok (.iload_n 1, 1) := by decide +kernel
theorem dJ5_append_c97b9_38 : decode cJ5_append_c97b9 38 = .ok (.iload_n 2, 1) := by decide +kernel
theorem dJ5_append_c97b9_39 : decode cJ5_append_c97b9 39 = .ok (.iload_n 3, 1) := by decide +kernel
theorem dJ5_append_c97b9_40 : decode cJ5_append_c97b9 40 = .ok (.aload_n 0, 1) := by decide +kernel
theorem dJ5_append_c97b9_41 : decode cJ5_append_c97b9 41 = .ok (.getfield 15, 3) := by decide +kernel
theorem dJ5_append_c97b9_44 : decode cJ5_append_c97b9 44 = .ok (.invokestatic 251, 3) := by decide +kernel
theorem dJ5_append_c97b9_47 : decode cJ5_append_c97b9 47 = .ok (.pop, 1) := by decide +kernel
theorem dJ5_append_c97b9_48 : decode cJ5_append_c97b9 48 = .ok (.aload_n 0, 1) := by decide +kernel
theorem dJ5_append_c97b9_49 : decode cJ5_append_c97b9 49 = .ok (.iload_n 3, 1) := by decide +kernel
theorem dJ5_append_c97b9_50 : decode cJ5_append_c97b9 50 = .ok (.putfield 79, 3) := by decide +kernel
theorem dJ5_append_c97b9_53 : decode cJ5_append_c97b9 53 = .ok (.aload_n 0, 1) := by decide +kernel
theorem dJ5_append_c97b9_54 : decode cJ5_append_c97b9 54 = .ok (.areturn, 1) := by decide +kernel
theorem dJ5_getValue_6d5f1_0 : decode cJ5_getValue_6d5f1 0 = .ok (.aload_n 0, 1) := by decide +kernel
theorem dJ5_getValue_6d5f1_1 : decode cJ5_getValue_6d5f1 1 = .ok (.getfield 15, 3) := by decide +kernel
theorem dJ5_getValue_6d5f1_4 : decode cJ5_getValue_6d5f1 4 = .ok (.areturn, 1) := by decide +kernel
theorem dJ5_isLatin1_aae02_0 : decode cJ5_isLatin1_aae02 0 = .ok (.getstatic 18, 3) := by decide +kernel
theorem dJ5_isLatin1_aae02_3 : decode cJ5_isLatin1_aae02 3 = .ok (.ifCond .eq 14, 3) := by decide +kernel
theorem dJ5_isLatin1_aae02_6 : decode cJ5_isLatin1_aae02 6 = .ok (.aload_n 0, 1) := by decide +kernel
theorem dJ5_isLatin1_aae02_7 : decode cJ5_isLatin1_aae02 7 = .ok (.getfield 22, 3) := by decide +kernel
theorem dJ5_isLatin1_aae02_10 : decode cJ5_isLatin1_aae02 10 = .ok (.ifCond .ne 7, 3) := by decide +kernel
theorem dJ5_isLatin1_aae02_13 : decode cJ5_isLatin1_aae02 13 = .ok (.iconst 1, 1) := by decide +kernel
theorem dJ5_isLatin1_aae02_14 : decode cJ5_isLatin1_aae02 14 = .ok (.goto 4, 3) := by decide +kernel
theorem dJ5_isLatin1_aae02_17 : decode cJ5_isLatin1_aae02 17 = .ok (.iconst 0, 1) := by decide +kernel
theorem dJ5_isLatin1_aae02_18 : decode cJ5_isLatin1_aae02 18 = .ok (.ireturn, 1) := by decide +kernel
theorem dJ5_inflateIfNeededFor_a7421_0 : decode cJ5_inflateIfNeededFor_a7421 0 = .ok (.getstatic 18, 3) := by decide +kernel
theorem dJ5_inflateIfNeededFor_a7421_3 : decode cJ5_inflateIfNeededFor_a7421 3 = .ok (.ifCond .eq 18, 3) := by decide +kernel
theorem dJ5_inflateIfNeededFor_a7421_6 : decode cJ5_inflateIfNeededFor_a7421 6 = .ok (.aload_n 0, 1) := by decide +kernel
theorem dJ5_inflateIfNeededFor_a7421_7 : decode cJ5_inflateIfNeededFor_a7421 7 = .ok (.getfield 22, 3) := by decide +kernel
theorem dJ5_inflateIfNeededFor_a7421_10 : decode cJ5_inflateIfNeededFor_a7421 10 = .ok (.aload_n 1, 1) := by decide +kernel
theorem dJ5_inflateIfNeededFor_a7421_11 : decode cJ5_inflateIfNeededFor_a7421 11 = .ok (.invokevirtual 40, 3) := by decide +kernel
theorem dJ5_inflateIfNeededFor_a7421_14 : decode cJ5_inflateIfNeededFor_a7421 14 = .ok (.if_icmp .eq 7, 3) := by decide +kernel
theorem dJ5_inflateIfNeededFor_a7421_17 : decode cJ5_inflateIfNeededFor_a7421 17 = .ok (.aload_n 0, 1) := by decide +kernel
theorem dJ5_inflateIfNeededFor_a7421_18 : decode cJ5_inflateIfNeededFor_a7421 18 = .ok (.invokevirtual 195, 3) := by decide +kernel
theorem dJ5_inflateIfNeededFor_a7421_21 : decode cJ5_inflateIfNeededFor_a7421 21 = .ok (.return_, 1) := by decide +kernel
theorem dJ5_putStringAt_47b60_0 : decode cJ5_putStringAt_47b60 0 = .ok (.aload_n 0, 1) := by decide +kernel
theorem dJ5_putStringAt_47b60_1 : decode cJ5_putStringAt_47b60 1 = .ok (.aload_n 2, 1) := by decide +kernel
theorem dJ5_putStringAt_47b60_2 : decode cJ5_putStringAt_47b60 2 = .ok (.invokevirtual 397, 3) := by decide +kernel
theorem dJ5_putStringAt_47b60_5 : decode cJ5_putStringAt_47b60 5 = .ok (.aload_n 2, 1) := by decide +kernel
theorem dJ5_putStringAt_47b60_6 : decode cJ5_putStringAt_47b60 6 = .ok (.aload_n 0, 1) := by decide +kernel
theorem dJ5_putStringAt_47b60_7 : decode cJ5_putStringAt_47b60 7 = .ok (.getfield 15, 3) := by decide +kernel
theorem dJ5_putStringAt_47b60_10 : decode cJ5_putStringAt_47b60 10 = .ok (.iload_n 1, 1) := by decide +kernel
theorem dJ5_putStringAt_47b60_11 : decode cJ5_putStringAt_47b60 11 = .ok (.aload_n 0, 1) := by decide +kernel
theorem dJ5_putStringAt_47b60_12 : decode cJ5_putStringAt_47b60 12 = .ok (.getfield 22, 3) := by decide +kernel
theorem dJ5_putStringAt_47b60_15 : decode cJ5_putStringAt_47b60 15 = .ok (.invokevirtual 399, 3) := by decide +kernel
theorem dJ5_putStringAt_47b60_18 : decode cJ5_putStringAt_47b60 18 = .ok (.return_, 1) := by decide +kernel
theorem dJx00060_init_d00df_0 : decode cJx00060_init_d00df 0 = .ok (.aload_n 0, 1) := by decide +kernel
theorem dJx00060_init_d00df_1 : decode cJx00060_init_d00df 1 = .ok (.new 10, 3) := by decide +kernel
theorem dJx00060_init_d00df_4 : decode cJx00060_init_d00df 4 = .ok (.dup, 1) := by decide +kernel
theorem dJx00060_init_d00df_5 : decode cJx00060_init_d00df 5 = .ok (.invokespecial 12, 3) := by decide +kernel
theorem dJx00060_init_d00df_8 : decode cJx00060_init_d00df 8 = .ok (.ldc 13, 2) := by decide +kernel
theorem dJx00060_init_d00df_10 : decode cJx00060_init_d00df 10 = .ok (.invokevirtual 15, 3) := by decide +kernel
theorem dJx00060_init_d00df_13 : decode cJx00060_init_d00df 13 = .ok (.iload_n 1, 1) := by decide +kernel
theorem dJx00060_init_d00df_14 : decode cJx00060_init_d00df 14 = .ok (.invokevirtual 19, 3) := by decide +kernel
theorem dJx00060_init_d00df_17 : decode cJx00060_init_d00df 17 = .ok (.invokevirtual 22, 3) := by decide +kernel
theorem dJx00060_init_d00df_20 : decode cJx00060_init_d00df 20 = .ok (.invokespecial 7, 3) := by decide +kernel
theorem dJx00060_init_d00df_23 : decode cJx00060_init_d00df 23 = .ok (.return_, 1) := by decide +kernel
theorem dJ6_getChars_ba4f3_0 : decode cJ6_getChars_ba4f3 0 = .ok (.iload_n 1, 1) := by decide +kernel
theorem dJ6_getChars_ba4f3_1 : decode cJ6_getChars_ba4f3 1 = .ok (.istore 5, 2) := by decide +kernel
theorem dJ6_getChars_ba4f3_3 : decode cJ6_getChars_ba4f3 3 = .ok (.iload_n 0, 1) := by decide +kernel
theorem dJ6_getChars_ba4f3_4 : decode cJ6_getChars_ba4f3 4 = .ok (.ifCond .ge 7, 3) := by decide +kernel
theorem dJ6_getChars_ba4f3_7 : decode cJ6_getChars_ba4f3 7 = .ok (.iconst 1, 1) := by decide +kernel
theorem dJ6_getChars_ba4f3_8 : decode cJ6_getChars_ba4f3 8 = .ok (.goto 4, 3) := by decide +kernel
theorem dJ6_getChars_ba4f3_11 : decode cJ6_getChars_ba4f3 11 = .ok (.iconst 0, 1) := by decide +kernel
theorem dJ6_getChars_ba4f3_12 : decode cJ6_getChars_ba4f3 12 = .ok (.istore 6, 2) := by decide +kernel
theorem dJ6_getChars_ba4f3_14 : decode cJ6_getChars_ba4f3 14 = .ok (.iload 6, 2) := by decide +kernel
theorem dJ6_getChars_ba4f3_16 : decode cJ6_getChars_ba4f3 16 = .ok (.ifCond .ne 6, 3) := by decide +kernel
theorem dJ6_getChars_ba4f3_19 : decode cJ6_getChars_ba4f3 19 = .ok (.iload_n 0, 1) := by decide +kernel
theorem dJ6_getChars_ba4f3_20 : decode cJ6_getChars_ba4f3 20 = .ok (.ineg, 1) := by decide +kernel
theorem dJ6_getChars_ba4f3_21 : decode cJ6_getChars_ba4f3 21 = .ok (.istore_n 0, 1) := by decide +kernel
theorem dJ6_getChars_ba4f3_22 : decode cJ6_getChars_ba4f3 22 = .ok (.iload_n 0, 1) := by decide +kernel
theorem dJ6_getChars_ba4f3_23 : decode cJ6_getChars_ba4f3 23 = .ok (.bipush (-100), 2) := by decide +kernel
theorem dJ6_getChars_ba4f3_25 : decode cJ6_getChars_ba4f3 25 = .ok (.if_icmp .gt 47, 3) := by decide +kernel
theorem dJ6_getChars_ba4f3_28 : decode cJ6_getChars_ba4f3 28 = .ok (.iload_n 0, 1) := by decide +kernel
theorem dJ6_getChars_ba4f3_29 : decode cJ6_getChars_ba4f3 29 = .ok (.bipush 100, 2) := by decide +kernel
theorem dJ6_getChars_ba4f3_31 : decode cJ6_getChars_ba4f3 31 = .ok (.idiv, 1) := by decide +kernel
theorem dJ6_getChars_ba4f3_32 : decode cJ6_getChars_ba4f3 32 = .ok (.istore_n 3, 1) := by decide +kernel
theorem dJ6_getChars_ba4f3_33 : decode cJ6_getChars_ba4f3 33 = .ok (.iload_n 3, 1) := by decide +kernel
theorem dJ6_getChars_ba4f3_34 : decode cJ6_getChars_ba4f3 34 = .ok (.bipush 100, 2) := by decide +kernel
theorem dJ6_getChars_ba4f3_36 : decode cJ6_getChars_ba4f3 36 = .ok (.imul, 1) := by decide +kernel
theorem dJ6_getChars_ba4f3_37 : decode cJ6_getChars_ba4f3 37 = .ok (.iload_n 0, 1) := by decide +kernel
theorem dJ6_getChars_ba4f3_38 : decode cJ6_getChars_ba4f3 38 = .ok (.isub, 1) := by decide +kernel
theorem dJ6_getChars_ba4f3_39 : decode cJ6_getChars_ba4f3 39 = .ok (.istore 4, 2) := by decide +kernel
theorem dJ6_getChars_ba4f3_41 : decode cJ6_getChars_ba4f3 41 = .ok (.iload_n 3, 1) := by decide +kernel
theorem dJ6_getChars_ba4f3_42 : decode cJ6_getChars_ba4f3 42 = .ok (.istore_n 0, 1) := by decide +kernel
theorem dJ6_getChars_ba4f3_43 : decode cJ6_getChars_ba4f3 43 = .ok (.aload_n 2, 1) := by decide +kernel
theorem dJ6_getChars_ba4f3_44 : decode cJ6_getChars_ba4f3 44 = .ok (.iinc 5 (-1), 3) := by decide +kernel
theorem dJ6_getChars_ba4f3_47 : decode cJ6_getChars_ba4f3 47 = .ok (.iload 5, 2) := by decide +kernel
theorem dJ6_getChars_ba4f3_49 : decode cJ6_getChars_ba4f3 49 = .ok (.getstatic 83, 3) := by decide +kernel
theorem dJ6_getChars_ba4f3_52 : decode cJ6_getChars_ba4f3 52 = .ok (.iload 4, 2) := by decide +kernel
theorem dJ6_getChars_ba4f3_54 : decode cJ6_getChars_ba4f3 54 = .ok (.baload, 1) := by decide +kernel
theorem dJ6_getChars_ba4f3_55 : decode cJ6_getChars_ba4f3 55 = .ok (.bastore, 1) := by decide +kernel
theorem dJ6_getChars_ba4f3_56 : decode cJ6_getChars_ba4f3 56 = .ok (.aload_n 2, 1) := by decide +kernel
theorem dJ6_getChars_ba4f3_57 : decode cJ6_getChars_ba4f3 57 = .ok (.iinc 5 (-1), 3) := by decide +kernel
theorem dJ6_getChars_ba4f3_60 : decode cJ6_getChars_ba4f3 60 = .ok (.iload 5, 2) := by decide +kernel
theorem dJ6_getChars_ba4f3_62 : decode cJ6_getChars_ba4f3 62 = .ok (.getstatic 87, 3) := by decide +kernel
theorem dJ6_getChars_ba4f3_65 : decode cJ6_getChars_ba4f3 65 = .ok (.iload 4, 2) := by decide +kernel
theorem dJ6_getChars_ba4f3_67 : decode cJ6_getChars_ba4f3 67 = .ok (.baload, 1) := by decide +kernel
theorem dJ6_getChars_ba4f3_68 : decode cJ6_getChars_ba4f3 68 = .ok (.bastore, 1) := by decide +kernel
theorem dJ6_getChars_ba4f3_69 : decode cJ6_getChars_ba4f3 69 = .ok (.goto (-47), 3) := by decide +kernel
theorem dJ6_getChars_ba4f3_72 : decode cJ6_getChars_ba4f3 72 = .ok (.aload_n 2, 1) := by decide +kernel
theorem dJ6_getChars_ba4f3_73 : decode cJ6_getChars_ba4f3 73 = .ok (.iinc 5 (-1), 3) := by decide +kernel
theorem dJ6_getChars_ba4f3_76 : decode cJ6_getChars_ba4f3 76 = .ok (.iload 5, 2) := by decide +kernel
theorem dJ6_getChars_ba4f3_78 : decode cJ6_getChars_ba4f3 78 = .ok (.getstatic 83, 3) := by decide +kernel
theorem dJ6_getChars_ba4f3_81 : decode cJ6_getChars_ba4f3 81 = .ok (.iload_n 0, 1) := by decide +kernel
theorem dJ6_getChars_ba4f3_82 : decode cJ6_getChars_ba4f3 82 = .ok (.ineg, 1) := by decide +kernel
theorem dJ6_getChars_ba4f3_83 : decode cJ6_getChars_ba4f3 83 = .ok (.baload, 1) := by decide +kernel
theorem dJ6_getChars_ba4f3_84 : decode cJ6_getChars_ba4f3 84 = .ok (.bastore, 1) := by decide +kernel
theorem dJ6_getChars_ba4f3_85 : decode cJ6_getChars_ba4f3 85 = .ok (.iload_n 0, 1) := by decide +kernel
theorem dJ6_getChars_ba4f3_86 : decode cJ6_getChars_ba4f3 86 = .ok (.bipush (-9), 2) := by decide +kernel
theorem dJ6_getChars_ba4f3_88 : decode cJ6_getChars_ba4f3 88 = .ok (.if_icmp .ge 16, 3) := by decide +kernel
theorem dJ6_getChars_ba4f3_91 : decode cJ6_getChars_ba4f3 91 = .ok (.aload_n 2, 1) := by decide +kernel
theorem dJ6_getChars_ba4f3_92 : decode cJ6_getChars_ba4f3 92 = .ok (.iinc 5 (-1), 3) := by decide +kernel
theorem dJ6_getChars_ba4f3_95 : decode cJ6_getChars_ba4f3 95 = .ok (.iload 5, 2) := by decide +kernel
theorem dJ6_getChars_ba4f3_97 : decode cJ6_getChars_ba4f3 97 = .ok (.getstatic 87, 3) := by decide +kernel
theorem dJ6_getChars_ba4f3_100 : decode cJ6_getChars_ba4f3 100 = .ok (.iload_n 0, 1) := by decide +kernel
theorem dJ6_getChars_ba4f3_101 : decode cJ6_getChars_ba4f3 101 = .ok (.ineg, 1) := by decide +kernel
theorem dJ6_getChars_ba4f3_102 : decode cJ6_getChars_ba4f3 102 = .ok (.baload, 1) := by decide +kernel
theorem dJ6_getChars_ba4f3_103 : decode cJ6_getChars_ba4f3 103 = .ok (.bastore, 1) := by decide +kernel
theorem dJ6_getChars_ba4f3_104 : decode cJ6_getChars_ba4f3 104 = .ok (.iload 6, 2) := by decide +kernel
theorem dJ6_getChars_ba4f3_106 : decode cJ6_getChars_ba4f3 106 = .ok (.ifCond .eq 12, 3) := by decide +kernel
theorem dJ6_getChars_ba4f3_109 : decode cJ6_getChars_ba4f3 109 = .ok (.aload_n 2, 1) := by decide +kernel
theorem dJ6_getChars_ba4f3_110 : decode cJ6_getChars_ba4f3 110 = .ok (.iinc 5 (-1), 3) := by decide +kernel
theorem dJ6_getChars_ba4f3_113 : decode cJ6_getChars_ba4f3 113 = .ok (.iload 5, 2) := by decide +kernel
theorem dJ6_getChars_ba4f3_115 : decode cJ6_getChars_ba4f3 115 = .ok (.bipush 45, 2) := by decide +kernel
theorem dJ6_getChars_ba4f3_117 : decode cJ6_getChars_ba4f3 117 = .ok (.bastore, 1) := by decide +kernel
theorem dJ6_getChars_ba4f3_118 : decode cJ6_getChars_ba4f3 118 = .ok (.iload 5, 2) := by decide +kernel
theorem dJ6_getChars_ba4f3_120 : decode cJ6_getChars_ba4f3 120 = .ok (.ireturn, 1) := by decide +kernel
theorem dJ6_stringSize_0f7a4_0 : decode cJ6_stringSize_0f7a4 0 = .ok (.iconst 1, 1) := by decide +kernel
theorem dJ6_stringSize_0f7a4_1 : decode cJ6_stringSize_0f7a4 1 = .ok (.istore_n 1, 1) := by decide +kernel
theorem dJ6_stringSize_0f7a4_2 : decode cJ6_stringSize_0f7a4 2 = .ok (.iload_n 0, 1) := by decide +kernel
theorem dJ6_stringSize_0f7a4_3 : decode cJ6_stringSize_0f7a4 3 = .ok (.ifCond .lt 8, 3) := by decide +kernel
theorem dJ6_stringSize_0f7a4_6 : decode cJ6_stringSize_0f7a4 6 = .ok (.iconst 0, 1) := by decide +kernel
theorem dJ6_stringSize_0f7a4_7 : decode cJ6_stringSize_0f7a4 7 = .ok (.istore_n 1, 1) := by decide +kernel
theorem dJ6_stringSize_0f7a4_8 : decode cJ6_stringSize_0f7a4 8 = .ok (.iload_n 0, 1) := by decide +kernel
theorem dJ6_stringSize_0f7a4_9 : decode cJ6_stringSize_0f7a4 9 = .ok (.ineg, 1) := by decide +kernel
theorem dJ6_stringSize_0f7a4_10 : decode cJ6_stringSize_0f7a4 10 = .ok (.istore_n 0, 1) := by decide +kernel
theorem dJ6_stringSize_0f7a4_11 : decode cJ6_stringSize_0f7a4 11 = .ok (.bipush (-10), 2) := by decide +kernel
theorem dJ6_stringSize_0f7a4_13 : decode cJ6_stringSize_0f7a4 13 = .ok (.istore_n 2, 1) := by decide +kernel
theorem dJ6_stringSize_0f7a4_14 : decode cJ6_stringSize_0f7a4 14 = .ok (.iconst 1, 1) := by decide +kernel
theorem dJ6_stringSize_0f7a4_15 : decode cJ6_stringSize_0f7a4 15 = .ok (.istore_n 3, 1) := by decide +kernel
theorem dJ6_stringSize_0f7a4_16 : decode cJ6_stringSize_0f7a4 16 = .ok (.iload_n 3, 1) := by decide +kernel
theorem dJ6_stringSize_0f7a4_17 : decode cJ6_stringSize_0f7a4 17 = .ok (.bipush 10, 2) := by decide +kernel
theorem dJ6_stringSize_0f7a4_19 : decode cJ6_stringSize_0f7a4 19 = .ok (.if_icmp .ge 23, 3) := by decide +kernel
theorem dJ6_stringSize_0f7a4_22 : decode cJ6_stringSize_0f7a4 22 = .ok (.iload_n 0, 1) := by decide +kernel
theorem dJ6_stringSize_0f7a4_23 : decode cJ6_stringSize_0f7a4 23 = .ok (.iload_n 2, 1) := by decide +kernel
theorem dJ6_stringSize_0f7a4_24 : decode cJ6_stringSize_0f7a4 24 = .ok (.if_icmp .le 7, 3) := by decide +kernel
theorem dJ6_stringSize_0f7a4_27 : decode cJ6_stringSize_0f7a4 27 = .ok (.iload_n 3, 1) := by decide +kernel
theorem dJ6_stringSize_0f7a4_28 : decode cJ6_stringSize_0f7a4 28 = .ok (.iload_n 1, 1) := by decide +kernel
theorem dJ6_stringSize_0f7a4_29 : decode cJ6_stringSize_0f7a4 29 = .ok (.iadd, 1) := by decide +kernel
theorem dJ6_stringSize_0f7a4_30 : decode cJ6_stringSize_0f7a4 30 = .ok (.ireturn, 1) := by decide +kernel
theorem dJ6_stringSize_0f7a4_31 : decode cJ6_stringSize_0f7a4 31 = .ok (.bipush 10, 2) := by decide +kernel
theorem dJ6_stringSize_0f7a4_33 : decode cJ6_stringSize_0f7a4 33 = .ok (.iload_n 2, 1) := by decide +kernel
theorem dJ6_stringSize_0f7a4_34 : decode cJ6_stringSize_0f7a4 34 = .ok (.imul, 1) := by decide +kernel
theorem dJ6_stringSize_0f7a4_35 : decode cJ6_stringSize_0f7a4 35 = .ok (.istore_n 2, 1) := by decide +kernel
theorem dJ6_stringSize_0f7a4_36 : decode cJ6_stringSize_0f7a4 36 = .ok (.iinc 3 1, 3) := by decide +kernel
theorem dJ6_stringSize_0f7a4_39 : decode cJ6_stringSize_0f7a4 39 = .ok (.goto (-23), 3) := by decide +kernel
theorem dJ6_stringSize_0f7a4_42 : decode cJ6_stringSize_0f7a4 42 = .ok (.bipush 10, 2) := by decide +kernel
theorem dJ6_stringSize_0f7a4_44 : decode cJ6_stringSize_0f7a4 44 = .ok (.iload_n 1, 1) := by decide +kernel
theorem dJ6_stringSize_0f7a4_45 : decode cJ6_stringSize_0f7a4 45 = .ok (.iadd, 1) := by decide +kernel
theorem dJ6_stringSize_0f7a4_46 : decode cJ6_stringSize_0f7a4 46 = .ok (.ireturn, 1) := by decide +kernel
theorem dJ9_floorMod_7cf53_0 : decode cJ9_floorMod_7cf53 0 = .ok (.iload_n 0, 1) := by decide +kernel
theorem dJ9_floorMod_7cf53_1 : decode cJ9_floorMod_7cf53 1 = .ok (.iload_n 1, 1) := by decide +kernel
theorem dJ9_floorMod_7cf53_2 : decode cJ9_floorMod_7cf53 2 = .ok (.irem, 1) := by decide +kernel
theorem dJ9_floorMod_7cf53_3 : decode cJ9_floorMod_7cf53 3 = .ok (.istore_n 2, 1) := by decide +kernel
theorem dJ9_floorMod_7cf53_4 : decode cJ9_floorMod_7cf53 4 = .ok (.iload_n 0, 1) := by decide +kernel
theorem dJ9_floorMod_7cf53_5 : decode cJ9_floorMod_7cf53 5 = .ok (.iload_n 1, 1) := by decide +kernel
theorem dJ9_floorMod_7cf53_6 : decode cJ9_floorMod_7cf53 6 = .ok (.ixor, 1) := by decide +kernel
theorem dJ9_floorMod_7cf53_7 : decode cJ9_floorMod_7cf53 7 = .ok (.ifCond .ge 11, 3) := by decide +kernel
theorem dJ9_floorMod_7cf53_10 : decode cJ9_floorMod_7cf53 10 = .ok (.iload_n 2, 1) := by decide +kernel
theorem dJ9_floorMod_7cf53_11 : decode cJ9_floorMod_7cf53 11 = .ok (.ifCond .eq 7, 3) := by decide +kernel
theorem dJ9_floorMod_7cf53_14 : decode cJ9_floorMod_7cf53 14 = .ok (.iload_n 2, 1) := by decide +kernel
theorem dJ9_floorMod_7cf53_15 : decode cJ9_floorMod_7cf53 15 = .ok (.iload_n 1, 1) := by decide +kernel
theorem dJ9_floorMod_7cf53_16 : decode cJ9_floorMod_7cf53 16 = .ok (.iadd, 1) := by decide +kernel
theorem dJ9_floorMod_7cf53_17 : decode cJ9_floorMod_7cf53 17 = .ok (.ireturn, 1) := by decide +kernel
theorem dJ9_floorMod_7cf53_18 : decode cJ9_floorMod_7cf53 18 = .ok (.iload_n 2, 1) := by decide +kernel
theorem dJ9_floorMod_7cf53_19 : decode cJ9_floorMod_7cf53 19 = .ok (.ireturn, 1) := by decide +kernel
theorem dJ9_max_7cf53_0 : decode cJ9_max_7cf53 0 = .ok (.iload_n 0, 1) := by decide +kernel
theorem dJ9_max_7cf53_1 : decode cJ9_max_7cf53 1 = .ok (.iload_n 1, 1) := by decide +kernel
theorem dJ9_max_7cf53_2 : decode cJ9_max_7cf53 2 = .ok (.if_icmp .lt 7, 3) := by decide +kernel
theorem dJ9_max_7cf53_5 : decode cJ9_max_7cf53 5 = .ok (.iload_n 0, 1) := by decide +kernel
theorem dJ9_max_7cf53_6 : decode cJ9_max_7cf53 6 = .ok (.goto 4, 3) := by decide +kernel
theorem dJ9_max_7cf53_9 : decode cJ9_max_7cf53 9 = .ok (.iload_n 1, 1) := by decide +kernel
theorem dJ9_max_7cf53_10 : decode cJ9_max_7cf53 10 = .ok (.ireturn, 1) := by decide +kernel
theorem dJ9_min_7cf53_0 : decode cJ9_min_7cf53 0 = .ok (.iload_n 0, 1) := by decide +kernel
theorem dJ9_min_7cf53_1 : decode cJ9_min_7cf53 1 = .ok (.iload_n 1, 1) := by decide +kernel
theorem dJ9_min_7cf53_2 : decode cJ9_min_7cf53 2 = .ok (.if_icmp .gt 7, 3) := by decide +kernel
theorem dJ9_min_7cf53_5 : decode cJ9_min_7cf53 5 = .ok (.iload_n 0, 1) := by decide +kernel
theorem dJ9_min_7cf53_6 : decode cJ9_min_7cf53 6 = .ok (.goto 4, 3) := by decide +kernel
theorem dJ9_min_7cf53_9 : decode cJ9_min_7cf53 9 = .ok (.iload_n 1, 1) := by decide +kernel
theorem dJ9_min_7cf53_10 : decode cJ9_min_7cf53 10 = .ok (.ireturn, 1) := by decide +kernel
theorem dJ0_init_81219_0 : decode cJ0_init_81219 0 = .ok (.aload_n 0, 1) := by decide +kernel
theorem dJ0_init_81219_1 : decode cJ0_init_81219 1 = .ok (.aload_n 1, 1) := by decide +kernel
theorem dJ0_init_81219_2 : decode cJ0_init_81219 2 = .ok (.aconst_null, 1) := by decide +kernel
theorem dJ0_init_81219_3 : decode cJ0_init_81219 3 = .ok (.invokespecial 489, 3) := by decide +kernel
theorem dJ0_init_81219_6 : decode cJ0_init_81219 6 = .ok (.return_, 1) := by decide +kernel
theorem dJ0_length_8abf5_0 : decode cJ0_length_8abf5 0 = .ok (.aload_n 0, 1) := by decide +kernel
theorem dJ0_length_8abf5_1 : decode cJ0_length_8abf5 1 = .ok (.getfield 9, 3) := by decide +kernel
theorem dJ0_length_8abf5_4 : decode cJ0_length_8abf5 4 = .ok (.arraylength, 1) := by decide +kernel
theorem dJ0_length_8abf5_5 : decode cJ0_length_8abf5 5 = .ok (.aload_n 0, 1) := by decide +kernel
theorem dJ0_length_8abf5_6 : decode cJ0_length_8abf5 6 = .ok (.invokevirtual 335, 3) := by decide +kernel
theorem dJ0_length_8abf5_9 : decode cJ0_length_8abf5 9 = .ok (.ishr, 1) := by decide +kernel
theorem dJ0_length_8abf5_10 : decode cJ0_length_8abf5 10 = .ok (.ireturn, 1) := by decide +kernel
theorem dJ0_charAt_5068e_0 : decode cJ0_charAt_5068e 0 = .ok (.aload_n 0, 1) := by decide +kernel
theorem dJ0_charAt_5068e_1 : decode cJ0_charAt_5068e 1 = .ok (.invokevirtual 492, 3) := by decide +kernel
theorem dJ0_charAt_5068e_4 : decode cJ0_charAt_5068e 4 = .ok (.ifCond .eq 12, 3) := by decide +kernel
theorem dJ0_charAt_5068e_7 : decode cJ0_charAt_5068e 7 = .ok (.aload_n 0, 1) := by decide +kernel
theorem dJ0_charAt_5068e_8 : decode cJ0_charAt_5068e 8 = .ok (.getfield 9, 3) := by decide +kernel
theorem dJ0_charAt_5068e_11 : decode cJ0_charAt_5068e 11 = .ok (.iload_n 1, 1) := by decide +kernel
theorem dJ0_charAt_5068e_12 : decode cJ0_charAt_5068e 12 = .ok (.invokestatic 495, 3) := by decide +kernel
theorem dJ0_charAt_5068e_15 : decode cJ0_charAt_5068e 15 = .ok (.ireturn, 1) := by decide +kernel
theorem dJ0_charAt_5068e_16 : decode cJ0_charAt_5068e 16 = .ok (.aload_n 0, 1) := by decide +kernel
theorem dJ0_charAt_5068e_17 : decode cJ0_charAt_5068e 17 = .ok (.getfield 9, 3) := by decide +kernel
theorem dJ0_charAt_5068e_20 : decode cJ0_charAt_5068e 20 = .ok (.iload_n 1, 1) := by decide +kernel
theorem dJ0_charAt_5068e_21 : decode cJ0_charAt_5068e 21 = .ok (.invokestatic 498, 3) := by decide +kernel
theorem dJ0_charAt_5068e_24 : decode cJ0_charAt_5068e 24 = .ok (.ireturn, 1) := by decide +kernel
theorem dJ0_getBytes_840e7_0 : decode cJ0_getBytes_840e7 0 = .ok (.aload_n 0, 1) := by decide +kernel
theorem dJ0_getBytes_840e7_1 : decode cJ0_getBytes_840e7 1 = .ok (.invokevirtual 335, 3) := by decide +kernel
theorem dJ0_getBytes_840e7_4 : decode cJ0_getBytes_840e7 4 = .ok (.iload_n 3, 1) := by decide +kernel
theorem dJ0_getBytes_840e7_5 : decode cJ0_getBytes_840e7 5 = .ok (.if_icmp .ne 23, 3) := by decide +kernel
theorem dJ0_getBytes_840e7_8 : decode cJ0_getBytes_840e7 8 = .ok (.aload_n 0, 1) := by decide +kernel
theorem dJ0_getBytes_840e7_9 : decode cJ0_getBytes_840e7 9 = .ok (.getfield 9, 3) := by decide +kernel
theorem dJ0_getBytes_840e7_12 : decode cJ0_getBytes_840e7 12 = .ok (.iconst 0, 1) := by decide +kernel
theorem dJ0_getBytes_840e7_13 : decode cJ0_getBytes_840e7 13 = .ok (.aload_n 1, 1) := by decide +kernel
theorem dJ0_getBytes_840e7_14 : decode cJ0_getBytes_840e7 14 = .ok (.iload_n 2, 1) := by decide +kernel
theorem dJ0_getBytes_840e7_15 : decode cJ0_getBytes_840e7 15 = .ok (.iload_n 3, 1) := by decide +kernel
theorem dJ0_getBytes_840e7_16 : decode cJ0_getBytes_840e7 16 = .ok (.ishl, 1) := by decide +kernel
theorem dJ0_getBytes_840e7_17 : decode cJ0_getBytes_840e7 17 = .ok (.aload_n 0, 1) := by decide +kernel
theorem dJ0_getBytes_840e7_18 : decode cJ0_getBytes_840e7 18 = .ok (.getfield 9, 3) := by decide +kernel
theorem dJ0_getBytes_840e7_21 : decode cJ0_getBytes_840e7 21 = .ok (.arraylength, 1) := by decide +kernel
theorem dJ0_getBytes_840e7_22 : decode cJ0_getBytes_840e7 22 = .ok (.invokestatic 212, 3) := by decide +kernel
theorem dJ0_getBytes_840e7_25 : decode cJ0_getBytes_840e7 25 = .ok (.goto 18, 3) := by decide +kernel
theorem dJ0_getBytes_840e7_28 : decode cJ0_getBytes_840e7 28 = .ok (.aload_n 0, 1) := by decide +kernel
theorem dJ0_getBytes_840e7_29 : decode cJ0_getBytes_840e7 29 = .ok (.getfield 9, 3) := by decide +kernel
theorem dJ0_getBytes_840e7_32 : decode cJ0_getBytes_840e7 32 = .ok (.iconst 0, 1) := by decide +kernel
theorem dJ0_getBytes_840e7_33 : decode cJ0_getBytes_840e7 33 = .ok (.aload_n 1, 1) := by decide +kernel
theorem dJ0_getBytes_840e7_34 : decode cJ0_getBytes_840e7 34 = .ok (.iload_n 2, 1) := by decide +kernel
theorem dJ0_getBytes_840e7_35 : decode cJ0_getBytes_840e7 35 = .ok (.aload_n 0, 1) := by decide +kernel
theorem dJ0_getBytes_840e7_36 : decode cJ0_getBytes_840e7 36 = .ok (.getfield 9, 3) := by decide +kernel
theorem dJ0_getBytes_840e7_39 : decode cJ0_getBytes_840e7 39 = .ok (.arraylength, 1) := by decide +kernel
theorem dJ0_getBytes_840e7_40 : decode cJ0_getBytes_840e7 40 = .ok (.invokestatic 106, 3) := by decide +kernel
theorem dJ0_getBytes_840e7_43 : decode cJ0_getBytes_840e7 43 = .ok (.return_, 1) := by decide +kernel
theorem dJ0_init_db425_0 : decode cJ0_init_db425 0 = .ok (.aload_n 0, 1) := by decide +kernel
theorem dJ0_init_db425_1 : decode cJ0_init_db425 1 = .ok (.invokespecial 1, 3) := by decide +kernel
theorem dJ0_init_db425_4 : decode cJ0_init_db425 4 = .ok (.aload_n 1, 1) := by decide +kernel
theorem dJ0_init_db425_5 : decode cJ0_init_db425 5 = .ok (.invokevirtual 552, 3) := by decide +kernel
theorem dJ0_init_db425_8 : decode cJ0_init_db425 8 = .ok (.astore_n 3, 1) := by decide +kernel
theorem dJ0_init_db425_9 : decode cJ0_init_db425 9 = .ok (.aload_n 1, 1) := by decide +kernel
theorem dJ0_init_db425_10 : decode cJ0_init_db425 10 = .ok (.invokevirtual 549, 3) := by decide +kernel
theorem dJ0_init_db425_13 : decode cJ0_init_db425 13 = .ok (.istore 4, 2) := by decide +kernel
theorem dJ0_init_db425_15 : decode cJ0_init_db425 15 = .ok (.aload_n 1, 1) := by decide +kernel
theorem dJ0_init_db425_16 : decode cJ0_init_db425 16 = .ok (.invokevirtual 1047, 3) := by decide +kernel
theorem dJ0_init_db425_19 : decode cJ0_init_db425 19 = .ok (.ifCond .eq 22, 3) := by decide +kernel
theorem dJ0_init_db425_22 : decode cJ0_init_db425 22 = .ok (.aload_n 0, 1) := by decide +kernel
theorem dJ0_init_db425_23 : decode cJ0_init_db425 23 = .ok (.iconst 0, 1) := by decide +kernel
theorem dJ0_init_db425_24 : decode cJ0_init_db425 24 = .ok (.putfield 15, 3) := by decide +kernel
theorem dJ0_init_db425_27 : decode cJ0_init_db425 27 = .ok (.aload_n 0, 1) := by decide +kernel
theorem dJ0_init_db425_28 : decode cJ0_init_db425 28 = .ok (.aload_n 3, 1) := by decide +kernel
theorem dJ0_init_db425_29 : decode cJ0_init_db425 29 = .ok (.iconst 0, 1) := by decide +kernel
theorem dJ0_init_db425_30 : decode cJ0_init_db425 30 = .ok (.iload 4, 2) := by decide +kernel
theorem dJ0_init_db425_32 : decode cJ0_init_db425 32 = .ok (.invokestatic 54, 3) := by decide +kernel
theorem dJ0_init_db425_35 : decode cJ0_init_db425 35 = .ok (.putfield 9, 3) := by decide +kernel
theorem dJ0_init_db425_38 : decode cJ0_init_db425 38 = .ok (.goto 59, 3) := by decide +kernel
theorem dJ0_init_db425_41 : decode cJ0_init_db425 41 = .ok (.getstatic 38, 3) := by decide +kernel
theorem dJ0_init_db425_44 : decode cJ0_init_db425 44 = .ok (.ifCond .eq 35, 3) := by decide +kernel
theorem dJ0_init_db425_47 : decode cJ0_init_db425 47 = .ok (.aload_n 1, 1) := by decide +kernel
theorem dJ0_init_db425_48 : decode cJ0_init_db425 48 = .ok (.getfield 1048, 3) := by decide +kernel
theorem dJ0_init_db425_51 : decode cJ0_init_db425 51 = .ok (.ifCond .eq 28, 3) := by decide +kernel
theorem dJ0_init_db425_54 : decode cJ0_init_db425 54 = .ok (.aload_n 0, 1) := by decide +kernel
theorem dJ0_init_db425_55 : decode cJ0_init_db425 55 = .ok (.aload_n 3, 1) := by decide +kernel
theorem dJ0_init_db425_56 : decode cJ0_init_db425 56 = .ok (.iconst 0, 1) := by decide +kernel
theorem dJ0_init_db425_57 : decode cJ0_init_db425 57 = .ok (.iload 4, 2) := by decide +kernel
theorem dJ0_init_db425_59 : decode cJ0_init_db425 59 = .ok (.invokestatic 1051, 3) := by decide +kernel
theorem dJ0_init_db425_62 : decode cJ0_init_db425 62 = .ok (.putfield 9, 3) := by decide +kernel
theorem dJ0_init_db425_65 : decode cJ0_init_db425 65 = .ok (.aload_n 0, 1) := by decide +kernel
theorem dJ0_init_db425_66 : decode cJ0_init_db425 66 = .ok (.aload_n 0, 1) := by decide +kernel
theorem dJ0_init_db425_67 : decode cJ0_init_db425 67 = .ok (.getfield 9, 3) := by decide +kernel
theorem dJ0_init_db425_70 : decode cJ0_init_db425 70 = .ok (.iload 4, 2) := by decide +kernel
theorem dJ0_init_db425_72 : decode cJ0_init_db425 72 = .ok (.invokestatic 47, 3) := by decide +kernel
theorem dJ0_init_db425_75 : decode cJ0_init_db425 75 = .ok (.putfield 15, 3) := by decide +kernel
theorem dJ0_init_db425_78 : decode cJ0_init_db425 78 = .ok (.return_, 1) := by decide +kernel
theorem dJ0_init_db425_79 : decode cJ0_init_db425 79 = .ok (.aload_n 0, 1) := by decide +kernel
theorem dJ0_init_db425_80 : decode cJ0_init_db425 80 = .ok (.iconst 1, 1) := by decide +kernel
theorem dJ0_init_db425_81 : decode cJ0_init_db425 81 = .ok (.putfield 15, 3) := by decide +kernel
theorem dJ0_init_db425_84 : decode cJ0_init_db425 84 = .ok (.aload_n 0, 1) := by decide +kernel
theorem dJ0_init_db425_85 : decode cJ0_init_db425 85 = .ok (.aload_n 3, 1) := by decide +kernel
theorem dJ0_init_db425_86 : decode cJ0_init_db425 86 = .ok (.iconst 0, 1) := by decide +kernel
theorem dJ0_init_db425_87 : decode cJ0_init_db425 87 = .ok (.iload 4, 2) := by decide +kernel
theorem dJ0_init_db425_89 : decode cJ0_init_db425 89 = .ok (.iconst 1, 1) := by decide +kernel
theorem dJ0_init_db425_90 : decode cJ0_init_db425 90 = .ok (.ishl, 1) := by decide +kernel
theorem dJ0_init_db425_91 : decode cJ0_init_db425 91 = .ok (.invokestatic 54, 3) := by decide +kernel
theorem dJ0_init_db425_94 : decode cJ0_init_db425 94 = .ok (.putfield 9, 3) := by decide +kernel
theorem dJ0_init_db425_97 : decode cJ0_init_db425 97 = .ok (.return_, 1) := by decide +kernel
theorem dJ0_coder_7d493_0 : decode cJ0_coder_7d493 0 = .ok (.getstatic 38, 3) := by decide +kernel
theorem dJ0_coder_7d493_3 : decode cJ0_coder_7d493 3 = .ok (.ifCond .eq 10, 3) := by decide +kernel
theorem dJ0_coder_7d493_6 : decode cJ0_coder_7d493 6 = .ok (.aload_n 0, 1) := by decide +kernel
theorem dJ0_coder_7d493_7 : decode cJ0_coder_7d493 7 = .ok (.getfield 15, 3) := by decide +kernel
theorem dJ0_coder_7d493_10 : decode cJ0_coder_7d493 10 = .ok (.goto 4, 3) := by decide +kernel
theorem dJ0_coder_7d493_13 : decode cJ0_coder_7d493 13 = .ok (.iconst 1, 1) := by decide +kernel
theorem dJ0_coder_7d493_14 : decode cJ0_coder_7d493 14 = .ok (.ireturn, 1) := by decide +kernel
theorem dJ0_isLatin1_aae02_0 : decode cJ0_isLatin1_aae02 0 = .ok (.getstatic 38, 3) := by decide +kernel
theorem dJ0_isLatin1_aae02_3 : decode cJ0_isLatin1_aae02 3 = .ok (.ifCond .eq 14, 3) := by decide +kernel
theorem dJ0_isLatin1_aae02_6 : decode cJ0_isLatin1_aae02 6 = .ok (.aload_n 0, 1) := by decide +kernel
theorem dJ0_isLatin1_aae02_7 : decode cJ0_isLatin1_aae02 7 = .ok (.getfield 15, 3) := by decide +kernel
theorem dJ0_isLatin1_aae02_10 : decode cJ0_isLatin1_aae02 10 = .ok (.ifCond .ne 7, 3) := by decide +kernel
theorem dJ0_isLatin1_aae02_13 : decode cJ0_isLatin1_aae02 13 = .ok (.iconst 1, 1) := by decide +kernel
theorem dJ0_isLatin1_aae02_14 : decode cJ0_isLatin1_aae02 14 = .ok (.goto 4, 3) := by decide +kernel
theorem dJ0_isLatin1_aae02_17 : decode cJ0_isLatin1_aae02 17 = .ok (.iconst 0, 1) := by decide +kernel
theorem dJ0_isLatin1_aae02_18 : decode cJ0_isLatin1_aae02 18 = .ok (.ireturn, 1) := by decide +kernel
theorem dJ0_checkIndex_df160_0 : decode cJ0_checkIndex_df160 0 = .ok (.iload_n 0, 1) := by decide +kernel
theorem dJ0_checkIndex_df160_1 : decode cJ0_checkIndex_df160 1 = .ok (.iload_n 1, 1) := by decide +kernel
theorem dJ0_checkIndex_df160_2 : decode cJ0_checkIndex_df160 2 = .ok (.getstatic 1053, 3) := by decide +kernel
theorem dJ0_checkIndex_df160_5 : decode cJ0_checkIndex_df160 5 = .ok (.invokestatic 1059, 3) := by decide +kernel
theorem dJ0_checkIndex_df160_8 : decode cJ0_checkIndex_df160 8 = .ok (.pop, 1) := by decide +kernel
theorem dJ0_checkIndex_df160_9 : decode cJ0_checkIndex_df160 9 = .ok (.return_, 1) := by decide +kernel
theorem dJ0_checkBoundsOffCount_cabcc_0 : decode cJ0_checkBoundsOffCount_cabcc 0 = .ok (.iload_n 0, 1) := by decide +kernel
theorem dJ0_checkBoundsOffCount_cabcc_1 : decode cJ0_checkBoundsOffCount_cabcc 1 = .ok (.iload_n 1, 1) := by decide +kernel
theorem dJ0_checkBoundsOffCount_cabcc_2 : decode cJ0_checkBoundsOffCount_cabcc 2 = .ok (.iload_n 2, 1) := by decide +kernel
theorem dJ0_checkBoundsOffCount_cabcc_3 : decode cJ0_checkBoundsOffCount_cabcc 3 = .ok (.getstatic 1053, 3) := by decide +kernel
theorem dJ0_checkBoundsOffCount_cabcc_6 : decode cJ0_checkBoundsOffCount_cabcc 6 = .ok (.invokestatic 1065, 3) := by decide +kernel
theorem dJ0_checkBoundsOffCount_cabcc_9 : decode cJ0_checkBoundsOffCount_cabcc 9 = .ok (.ireturn, 1) := by decide +kernel
theorem dJ0_checkBoundsBeginEnd_23922_0 : decode cJ0_checkBoundsBeginEnd_23922 0 = .ok (.iload_n 0, 1) := by decide +kernel
theorem dJ0_checkBoundsBeginEnd_23922_1 : decode cJ0_checkBoundsBeginEnd_23922 1 = .ok (.iload_n 1, 1) := by decide +kernel
theorem dJ0_checkBoundsBeginEnd_23922_2 : decode cJ0_checkBoundsBeginEnd_23922 2 = .ok (.iload_n 2, 1) := by decide +kernel
theorem dJ0_checkBoundsBeginEnd_23922_3 : decode cJ0_checkBoundsBeginEnd_23922 3 = .ok (.getstatic 1053, 3) := by decide +kernel
theorem dJ0_checkBoundsBeginEnd_23922_6 : decode cJ0_checkBoundsBeginEnd_23922 6 = .ok (.invokestatic 1062, 3) := by decide +kernel
theorem dJ0_checkBoundsBeginEnd_23922_9 : decode cJ0_checkBoundsBeginEnd_23922 9 = .ok (.pop, 1) := by decide +kernel
theorem dJ0_checkBoundsBeginEnd_23922_10 : decode cJ0_checkBoundsBeginEnd_23922 10 = .ok (.return_, 1) := by decide +kernel
theorem dJ4_init_da8c8_0 : decode cJ4_init_da8c8 0 = .ok (.aload_n 0, 1) := by decide +kernel
theorem dJ4_init_da8c8_1 : decode cJ4_init_da8c8 1 = .ok (.bipush 16, 2) := by decide +kernel
theorem dJ4_init_da8c8_3 : decode cJ4_init_da8c8 3 = .ok (.invokespecial 1, 3) := by decide +kernel
theorem dJ4_init_da8c8_6 : decode cJ4_init_da8c8 6 = .ok (.return_, 1) := by decide +kernel
theorem dJ4_append_15ec4_0 : decode cJ4_append_15ec4 0 = .ok (.aload_n 0, 1) := by decide +kernel
theorem dJ4_append_15ec4_1 : decode cJ4_append_15ec4 1 = .ok (.aload_n 1, 1) := by decide +kernel
theorem dJ4_append_15ec4_2 : decode cJ4_append_15ec4 2 = .ok (.invokespecial 29, 3) := by decide +kernel
theorem dJ4_append_15ec4_5 : decode cJ4_append_15ec4 5 = .ok (.pop, 1) := by decide +kernel
theorem dJ4_append_15ec4_6 : decode cJ4_append_15ec4 6 = .ok (.aload_n 0, 1) := by decide +kernel
theorem dJ4_append_15ec4_7 : decode cJ4_append_15ec4 7 = .ok (.areturn, 1) := by decide +kernel
theorem dJ4_append_cf468_0 : decode cJ4_append_cf468 0 = .ok (.aload_n 0, 1) := by decide +kernel
theorem dJ4_append_cf468_1 : decode cJ4_append_cf468 1 = .ok (.iload_n 1, 1) := by decide +kernel
theorem dJ4_append_cf468_2 : decode cJ4_append_cf468 2 = .ok (.invokespecial 50, 3) := by decide +kernel
theorem dJ4_append_cf468_5 : decode cJ4_append_cf468 5 = .ok (.pop, 1) := by decide +kernel
theorem dJ4_append_cf468_6 : decode cJ4_append_cf468 6 = .ok (.aload_n 0, 1) := by decide +kernel
theorem dJ4_append_cf468_7 : decode cJ4_append_cf468 7 = .ok (.areturn, 1) := by decide +kernel
theorem dJ4_append_bf812_0 : decode cJ4_append_bf812 0 = .ok (.aload_n 0, 1) := by decide +kernel
theorem dJ4_append_bf812_1 : decode cJ4_append_bf812 1 = .ok (.iload_n 1, 1) := by decide +kernel
theorem dJ4_append_bf812_2 : decode cJ4_append_bf812 2 = .ok (.invokespecial 53, 3) := by decide +kernel
theorem dJ4_append_bf812_5 : decode cJ4_append_bf812 5 = .ok (.pop, 1) := by decide +kernel
theorem dJ4_append_bf812_6 : decode cJ4_append_bf812 6 = .ok (.aload_n 0, 1) := by decide +kernel
theorem dJ4_append_bf812_7 : decode cJ4_append_bf812 7 = .ok (.areturn, 1) := by decide +kernel
theorem dJ4_toString_0e30d_0 : decode cJ4_toString_0e30d 0 = .ok (.new 18, 3) := by decide +kernel
theorem dJ4_toString_0e30d_3 : decode cJ4_toString_0e30d 3 = .ok (.dup, 1) := by decide +kernel
theorem dJ4_toString_0e30d_4 : decode cJ4_toString_0e30d 4 = .ok (.aload_n 0, 1) := by decide +kernel
theorem dJ4_toString_0e30d_5 : decode cJ4_toString_0e30d 5 = .ok (.invokespecial 137, 3) := by decide +kernel
theorem dJ4_toString_0e30d_8 : decode cJ4_toString_0e30d 8 = .ok (.areturn, 1) := by decide +kernel
theorem dJ4_setLength_d00df_0 : decode cJ4_setLength_d00df 0 = .ok (.aload_n 0, 1) := by decide +kernel
theorem dJ4_setLength_d00df_1 : decode cJ4_setLength_d00df 1 = .ok (.iload_n 1, 1) := by decide +kernel
theorem dJ4_setLength_d00df_2 : decode cJ4_setLength_d00df 2 = .ok (.invokespecial 333, 3) := by decide +kernel
theorem dJ4_setLength_d00df_5 : decode cJ4_setLength_d00df 5 = .ok (.return_, 1) := by decide +kernel
theorem dJ4_length_8abf5_0 : decode cJ4_length_8abf5 0 = .ok (.aload_n 0, 1) := by decide +kernel
theorem dJ4_length_8abf5_1 : decode cJ4_length_8abf5 1 = .ok (.invokespecial 343, 3) := by decide +kernel
theorem dJ4_length_8abf5_4 : decode cJ4_length_8abf5 4 = .ok (.ireturn, 1) := by decide +kernel
theorem dJx7c733_init_d00df_0 : decode cJx7c733_init_d00df 0 = .ok (.aload_n 0, 1) := by decide +kernel
theorem dJx7c733_init_d00df_1 : decode cJx7c733_init_d00df 1 = .ok (.new 10, 3) := by decide +kernel
theorem dJx7c733_init_d00df_4 : decode cJx7c733_init_d00df 4 = .ok (.dup, 1) := by decide +kernel
theorem dJx7c733_init_d00df_5 : decode cJx7c733_init_d00df 5 = .ok (.invokespecial 12, 3) := by decide +kernel
theorem dJx7c733_init_d00df_8 : decode cJx7c733_init_d00df 8 = .ok (.ldc 13, 2) := by decide +kernel
theorem dJx7c733_init_d00df_10 : decode cJx7c733_init_d00df 10 = .ok (.invokevirtual 15, 3) := by decide +kernel
theorem dJx7c733_init_d00df_13 : decode cJx7c733_init_d00df 13 = .ok (.iload_n 1, 1) := by decide +kernel
theorem dJx7c733_init_d00df_14 : decode cJx7c733_init_d00df 14 = .ok (.invokevirtual 19, 3) := by decide +kernel
theorem dJx7c733_init_d00df_17 : decode cJx7c733_init_d00df 17 = .ok (.invokevirtual 22, 3) := by decide +kernel
theorem dJx7c733_init_d00df_20 : decode cJx7c733_init_d00df 20 = .ok (.invokespecial 7, 3) := by decide +kernel
theorem dJx7c733_init_d00df_23 : decode cJx7c733_init_d00df 23 = .ok (.return_, 1) := by decide +kernel
theorem dJ1_charAt_3b067_0 : decode cJ1_charAt_3b067 0 = .ok (.iload_n 1, 1) := by decide +kernel
theorem dJ1_charAt_3b067_1 : decode cJ1_charAt_3b067 1 = .ok (.aload_n 0, 1) := by decide +kernel
theorem dJ1_charAt_3b067_2 : decode cJ1_charAt_3b067 2 = .ok (.arraylength, 1) := by decide +kernel
theorem dJ1_charAt_3b067_3 : decode cJ1_charAt_3b067 3 = .ok (.invokestatic 9, 3) := by decide +kernel
theorem dJ1_charAt_3b067_6 : decode cJ1_charAt_3b067 6 = .ok (.aload_n 0, 1) := by decide +kernel
theorem dJ1_charAt_3b067_7 : decode cJ1_charAt_3b067 7 = .ok (.iload_n 1, 1) := by decide +kernel
theorem dJ1_charAt_3b067_8 : decode cJ1_charAt_3b067 8 = .ok (.baload, 1) := by decide +kernel
theorem dJ1_charAt_3b067_9 : decode cJ1_charAt_3b067 9 = .ok (.sipush 255, 3) := by decide +kernel
theorem dJ1_charAt_3b067_12 : decode cJ1_charAt_3b067 12 = .ok (.iand, 1) := by decide +kernel
theorem dJ1_charAt_3b067_13 : decode cJ1_charAt_3b067 13 = .ok (.i2c, 1) := by decide +kernel
theorem dJ1_charAt_3b067_14 : decode cJ1_charAt_3b067 14 = .ok (.ireturn, 1) := by decide +kernel
theorem dJ1_canEncode_fc78d_0 : decode cJ1_canEncode_fc78d 0 = .ok (.iload_n 0, 1) := by decide +kernel
theorem dJ1_canEncode_fc78d_1 : decode cJ1_canEncode_fc78d 1 = .ok (.sipush 255, 3) := by decide +kernel
theorem dJ1_canEncode_fc78d_4 : decode cJ1_canEncode_fc78d 4 = .ok (.if_icmp .gt 7, 3) := by decide +kernel
theorem dJ1_canEncode_fc78d_7 : decode cJ1_canEncode_fc78d 7 = .ok (.iconst 1, 1) := by decide +kernel
theorem dJ1_canEncode_fc78d_8 : decode cJ1_canEncode_fc78d 8 = .ok (.goto 4, 3) := by decide +kernel
theorem dJ1_canEncode_fc78d_11 : decode cJ1_canEncode_fc78d 11 = .ok (.iconst 0, 1) := by decide +kernel
theorem dJ1_canEncode_fc78d_12 : decode cJ1_canEncode_fc78d 12 = .ok (.ireturn, 1) := by decide +kernel
theorem dJ1_fillNull_b72d1_0 : decode cJ1_fillNull_b72d1 0 = .ok (.aload_n 0, 1) := by decide +kernel
theorem dJ1_fillNull_b72d1_1 : decode cJ1_fillNull_b72d1 1 = .ok (.iload_n 1, 1) := by decide +kernel
theorem dJ1_fillNull_b72d1_2 : decode cJ1_fillNull_b72d1 2 = .ok (.iload_n 2, 1) := by decide +kernel
theorem dJ1_fillNull_b72d1_3 : decode cJ1_fillNull_b72d1 3 = .ok (.iconst 0, 1) := by decide +kernel
theorem dJ1_fillNull_b72d1_4 : decode cJ1_fillNull_b72d1 4 = .ok (.invokestatic 236, 3) := by decide +kernel
theorem dJ1_fillNull_b72d1_7 : decode cJ1_fillNull_b72d1 7 = .ok (.return_, 1) := by decide +kernel
theorem dJ1_inflate_0e8fd_0 : decode cJ1_inflate_0e8fd 0 = .ok (.aload_n 0, 1) := by decide +kernel
theorem dJ1_inflate_0e8fd_1 : decode cJ1_inflate_0e8fd 1 = .ok (.iload_n 1, 1) := by decide +kernel
theorem dJ1_inflate_0e8fd_2 : decode cJ1_inflate_0e8fd 2 = .ok (.aload_n 2, 1) := by decide +kernel
theorem dJ1_inflate_0e8fd_3 : decode cJ1_inflate_0e8fd 3 = .ok (.iload_n 3, 1) := by decide +kernel
theorem dJ1_inflate_0e8fd_4 : decode cJ1_inflate_0e8fd 4 = .ok (.iload 4, 2) := by decide +kernel
theorem dJ1_inflate_0e8fd_6 : decode cJ1_inflate_0e8fd 6 = .ok (.invokestatic 240, 3) := by decide +kernel
theorem dJ1_inflate_0e8fd_9 : decode cJ1_inflate_0e8fd 9 = .ok (.return_, 1) := by decide +kernel
theorem dJ2_newBytesFor_77867_0 : decode cJ2_newBytesFor_77867 0 = .ok (.iload_n 0, 1) := by decide +kernel
theorem dJ2_newBytesFor_77867_1 : decode cJ2_newBytesFor_77867 1 = .ok (.invokestatic 11, 3) := by decide +kernel
theorem dJ2_newBytesFor_77867_4 : decode cJ2_newBytesFor_77867 4 = .ok (.newarray .byte, 2) := by decide +kernel
theorem dJ2_newBytesFor_77867_6 : decode cJ2_newBytesFor_77867 6 = .ok (.areturn, 1) := by decide +kernel
theorem dJ2_newBytesLength_0f7a4_0 : decode cJ2_newBytesLength_0f7a4 0 = .ok (.iload_n 0, 1) := by decide +kernel
theorem dJ2_newBytesLength_0f7a4_1 : decode cJ2_newBytesLength_0f7a4 1 = .ok (.ifCond .ge 11, 3) := by decide +kernel
theorem dJ2_newBytesLength_0f7a4_4 : decode cJ2_newBytesLength_0f7a4 4 = .ok (.new 17, 3) := by decide +kernel
theorem dJ2_newBytesLength_0f7a4_7 : decode cJ2_newBytesLength_0f7a4 7 = .ok (.dup, 1) := by decide +kernel
theorem dJ2_newBytesLength_0f7a4_8 : decode cJ2_newBytesLength_0f7a4 8 = .ok (.invokespecial 19, 3) := by decide +kernel
theorem dJ2_newBytesLength_0f7a4_11 : decode cJ2_newBytesLength_0f7a4 11 = .ok (.athrow, 1) := by decide +kernel
theorem dJ2_newBytesLength_0f7a4_12 : decode cJ2_newBytesLength_0f7a4 12 = .ok (.iload_n 0, 1) := by decide +kernel
theorem dJ2_newBytesLength_0f7a4_13 : decode cJ2_newBytesLength_0f7a4 13 = .ok (.ldc 20, 2) := by decide +kernel
theorem dJ2_newBytesLength_0f7a4_15 : decode cJ2_newBytesLength_0f7a4 15 = .ok (.if_icmp .lt 40, 3) := by decide +kernel
theorem dJ2_newBytesLength_0f7a4_18 : decode cJ2_newBytesLength_0f7a4 18 = .ok (.new 21, 3) := by decide +kernel
theorem dJ2_newBytesLength_0f7a4_21 : decode cJ2_newBytesLength_0f7a4 21 = .ok (.dup, 1) := by decide +kernel
theorem dJ2_newBytesLength_0f7a4_22 : decode cJ2_newBytesLength_0f7a4 22 = .ok (.new 23, 3) := by decide +kernel
theorem dJ2_newBytesLength_0f7a4_25 : decode cJ2_newBytesLength_0f7a4 25 = .ok (.dup, 1) := by decide +kernel
theorem dJ2_newBytesLength_0f7a4_26 : decode cJ2_newBytesLength_0f7a4 26 = .ok (.invokespecial 25, 3) := by decide +kernel
theorem dJ2_newBytesLength_0f7a4_29 : decode cJ2_newBytesLength_0f7a4 29 = .ok (.ldc 26, 2) := by decide +kernel
theorem dJ2_newBytesLength_0f7a4_31 : decode cJ2_newBytesLength_0f7a4 31 = .ok (.invokevirtual 28, 3) := by decide +kernel
theorem dJ2_newBytesLength_0f7a4_34 : decode cJ2_newBytesLength_0f7a4 34 = .ok (.iload_n 0, 1) := by decide +kernel
theorem dJ2_newBytesLength_0f7a4_35 : decode cJ2_newBytesLength_0f7a4 35 = .ok (.invokevirtual 32, 3) := by decide +kernel
theorem dJ2_newBytesLength_0f7a4_38 : decode cJ2_newBytesLength_0f7a4 38 = .ok (.ldc 35, 2) := by decide +kernel
theorem dJ2_newBytesLength_0f7a4_40 : decode cJ2_newBytesLength_0f7a4 40 = .ok (.invokevirtual 28, 3) := by decide +kernel
theorem dJ2_newBytesLength_0f7a4_43 : decode cJ2_newBytesLength_0f7a4 43 = .ok (.ldc 20, 2) := by decide +kernel
theorem dJ2_newBytesLength_0f7a4_45 : decode cJ2_newBytesLength_0f7a4 45 = .ok (.invokevirtual 32, 3) := by decide +kernel
theorem dJ2_newBytesLength_0f7a4_48 : decode cJ2_newBytesLength_0f7a4 48 = .ok (.invokevirtual 37, 3) := by decide +kernel
theorem dJ2_newBytesLength_0f7a4_51 : decode cJ2_newBytesLength_0f7a4 51 = .ok (.invokespecial 41, 3) := by decide +kernel
theorem dJ2_newBytesLength_0f7a4_54 : decode cJ2_newBytesLength_0f7a4 54 = .ok (.athrow, 1) := by decide +kernel
theorem dJ2_newBytesLength_0f7a4_55 : decode cJ2_newBytesLength_0f7a4 55 = .ok (.iload_n 0, 1) := by decide +kernel
theorem dJ2_newBytesLength_0f7a4_56 : decode cJ2_newBytesLength_0f7a4 56 = .ok (.iconst 1, 1) := by decide +kernel
theorem dJ2_newBytesLength_0f7a4_57 : decode cJ2_newBytesLength_0f7a4 57 = .ok (.ishl, 1) := by decide +kernel
theorem dJ2_newBytesLength_0f7a4_58 : decode cJ2_newBytesLength_0f7a4 58 = .ok (.ireturn, 1) := by decide +kernel
theorem dJ2_putChar_b72d1_0 : decode cJ2_putChar_b72d1 0 = .ok (.getstatic 44, 3) := by decide +kernel
theorem dJ2_putChar_b72d1_3 : decode cJ2_putChar_b72d1 3 = .ok (.ifCond .ne 25, 3) := by decide +kernel
theorem dJ2_putChar_b72d1_6 : decode cJ2_putChar_b72d1 6 = .ok (.iload_n 1, 1) := by decide +kernel
theorem dJ2_putChar_b72d1_7 : decode cJ2_putChar_b72d1 7 = .ok (.ifCond .lt 11, 3) := by decide +kernel
theorem dJ2_putChar_b72d1_10 : decode cJ2_putChar_b72d1 10 = .ok (.iload_n 1, 1) := by decide +kernel
theorem dJ2_putChar_b72d1_11 : decode cJ2_putChar_b72d1 11 = .ok (.aload_n 0, 1) := by decide +kernel
theorem dJ2_putChar_b72d1_12 : decode cJ2_putChar_b72d1 12 = .ok (.invokestatic 48, 3) := by decide +kernel
theorem dJ2_putChar_b72d1_15 : decode cJ2_putChar_b72d1 15 = .ok (.if_icmp .lt 13, 3) := by decide +kernel
theorem dJ2_putChar_b72d1_18 : decode cJ2_putChar_b72d1 18 = .ok (.new 52, 3) := by decide +kernel
theorem dJ2_putChar_b72d1_21 : decode cJ2_putChar_b72d1 21 = .ok (.dup, 1) := by decide +kernel
theorem dJ2_putChar_b72d1_22 : decode cJ2_putChar_b72d1 22 = .ok (.ldc 54, 2) := by decide +kernel
theorem dJ2_putChar_b72d1_24 : decode cJ2_putChar_b72d1 24 = .ok (.invokespecial 56, 3) := by decide +kernel
theorem dJ2_putChar_b72d1_27 : decode cJ2_putChar_b72d1 27 = .ok (.athrow, 1) := by decide +kernel
theorem dJ2_putChar_b72d1_28 : decode cJ2_putChar_b72d1 28 = .ok (.iload_n 1, 1) := by decide +kernel
theorem dJ2_putChar_b72d1_29 : decode cJ2_putChar_b72d1 29 = .ok (.iconst 1, 1) := by decide +kernel
theorem dJ2_putChar_b72d1_30 : decode cJ2_putChar_b72d1 30 = .ok (.ishl, 1) := by decide +kernel
theorem dJ2_putChar_b72d1_31 : decode cJ2_putChar_b72d1 31 = .ok (.istore_n 1, 1) := by decide +kernel
theorem dJ2_putChar_b72d1_32 : decode cJ2_putChar_b72d1 32 = .ok (.aload_n 0, 1) := by decide +kernel
theorem dJ2_putChar_b72d1_33 : decode cJ2_putChar_b72d1 33 = .ok (.iload_n 1, 1) := by decide +kernel
theorem dJ2_putChar_b72d1_34 : decode cJ2_putChar_b72d1 34 = .ok (.iinc 1 1, 3) := by decide +kernel
theorem dJ2_putChar_b72d1_37 : decode cJ2_putChar_b72d1 37 = .ok (.iload_n 2, 1) := by decide +kernel
theorem dJ2_putChar_b72d1_38 : decode cJ2_putChar_b72d1 38 = .ok (.getstatic 59, 3) := by decide +kernel
theorem dJ2_putChar_b72d1_41 : decode cJ2_putChar_b72d1 41 = .ok (.ishr, 1) := by decide +kernel
theorem dJ2_putChar_b72d1_42 : decode cJ2_putChar_b72d1 42 = .ok (.i2b, 1) := by decide +kernel
theorem dJ2_putChar_b72d1_43 : decode cJ2_putChar_b72d1 43 = .ok (.bastore, 1) := by decide +kernel
theorem dJ2_putChar_b72d1_44 : decode cJ2_putChar_b72d1 44 = .ok (.aload_n 0, 1) := by decide +kernel
theorem dJ2_putChar_b72d1_45 : decode cJ2_putChar_b72d1 45 = .ok (.iload_n 1, 1) := by decide +kernel
theorem dJ2_putChar_b72d1_46 : decode cJ2_putChar_b72d1 46 = .ok (.iload_n 2, 1) := by decide +kernel
theorem dJ2_putChar_b72d1_47 : decode cJ2_putChar_b72d1 47 = .ok (.getstatic 63, 3) := by decide +kernel
theorem dJ2_putChar_b72d1_50 : decode cJ2_putChar_b72d1 50 = .ok (.ishr, 1) := by decide +kernel
theorem dJ2_putChar_b72d1_51 : decode cJ2_putChar_b72d1 51 = .ok (.i2b, 1) := by decide +kernel
theorem dJ2_putChar_b72d1_52 : decode cJ2_putChar_b72d1 52 = .ok (.bastore, 1) := by decide +kernel
theorem dJ2_putChar_b72d1_53 : decode cJ2_putChar_b72d1 53 = .ok (.return_, 1) := by decide +kernel
theorem dJ2_getChar_3b067_0 : decode cJ2_getChar_3b067 0 = .ok (.getstatic 44, 3) := by decide +kernel
theorem dJ2_getChar_3b067_3 : decode cJ2_getChar_3b067 3 = .ok (.ifCond .ne 25, 3) := by decide +kernel
theorem dJ2_getChar_3b067_6 : decode cJ2_getChar_3b067 6 = .ok (.iload_n 1, 1) := by decide +kernel
theorem dJ2_getChar_3b067_7 : decode cJ2_getChar_3b067 7 = .ok (.ifCond .lt 11, 3) := by decide +kernel
theorem dJ2_getChar_3b067_10 : decode cJ2_getChar_3b067 10 = .ok (.iload_n 1, 1) := by decide +kernel
theorem dJ2_getChar_3b067_11 : decode cJ2_getChar_3b067 11 = .ok (.aload_n 0, 1) := by decide +kernel
theorem dJ2_getChar_3b067_12 : decode cJ2_getChar_3b067 12 = .ok (.invokestatic 48, 3) := by decide +kernel
theorem dJ2_getChar_3b067_15 : decode cJ2_getChar_3b067 15 = .ok (.if_icmp .lt 13, 3) := by decide +kernel
theorem dJ2_getChar_3b067_18 : decode cJ2_getChar_3b067 18 = .ok (.new 52, 3) := by decide +kernel
theorem dJ2_getChar_3b067_21 : decode cJ2_getChar_3b067 21 = .ok (.dup, 1) := by decide +kernel
theorem dJ2_getChar_3b067_22 : decode cJ2_getChar_3b067 22 = .ok (.ldc 54, 2) := by decide +kernel
theorem dJ2_getChar_3b067_24 : decode cJ2_getChar_3b067 24 = .ok (.invokespecial 56, 3) := by decide +kernel
theorem dJ2_getChar_3b067_27 : decode cJ2_getChar_3b067 27 = .ok (.athrow, 1) := by decide +kernel
theorem dJ2_getChar_3b067_28 : decode cJ2_getChar_3b067 28 = .ok (.iload_n 1, 1) := by decide +kernel
theorem dJ2_getChar_3b067_29 : decode cJ2_getChar_3b067 29 = .ok (.iconst 1, 1) := by decide +kernel
theorem dJ2_getChar_3b067_30 : decode cJ2_getChar_3b067 30 = .ok (.ishl, 1) := by decide +kernel
theorem dJ2_getChar_3b067_31 : decode cJ2_getChar_3b067 31 = .ok (.istore_n 1, 1) := by decide +kernel
theorem dJ2_getChar_3b067_32 : decode cJ2_getChar_3b067 32 = .ok (.aload_n 0, 1) := by decide +kernel
theorem dJ2_getChar_3b067_33 : decode cJ2_getChar_3b067 33 = .ok (.iload_n 1, 1) := by decide +kernel
theorem dJ2_getChar_3b067_34 : decode cJ2_getChar_3b067 34 = .ok (.iinc 1 1, 3) := by decide +kernel
theorem dJ2_getChar_3b067_37 : decode cJ2_getChar_3b067 37 = .ok (.baload, 1) := by decide +kernel
theorem dJ2_getChar_3b067_38 : decode cJ2_getChar_3b067 38 = .ok (.sipush 255, 3) := by decide +kernel
theorem dJ2_getChar_3b067_41 : decode cJ2_getChar_3b067 41 = .ok (.iand, 1) := by decide +kernel
theorem dJ2_getChar_3b067_42 : decode cJ2_getChar_3b067 42 = .ok (.getstatic 59, 3) := by decide +kernel
theorem dJ2_getChar_3b067_45 : decode cJ2_getChar_3b067 45 = .ok (.ishl, 1) := by decide +kernel
theorem dJ2_getChar_3b067_46 : decode cJ2_getChar_3b067 46 = .ok (.aload_n 0, 1) := by decide +kernel
theorem dJ2_getChar_3b067_47 : decode cJ2_getChar_3b067 47 = .ok (.iload_n 1, 1) := by decide +kernel
theorem dJ2_getChar_3b067_48 : decode cJ2_getChar_3b067 48 = .ok (.baload, 1) := by decide +kernel
theorem dJ2_getChar_3b067_49 : decode cJ2_getChar_3b067 49 = .ok (.sipush 255, 3) := by decide +kernel
theorem dJ2_getChar_3b067_52 : decode cJ2_getChar_3b067 52 = .ok (.iand, 1) := by decide +kernel
theorem dJ2_getChar_3b067_53 : decode cJ2_getChar_3b067 53 = .ok (.getstatic 63, 3) := by decide +kernel
theorem dJ2_getChar_3b067_56 : decode cJ2_getChar_3b067 56 = .ok (.ishl, 1) := by decide +kernel
theorem dJ2_getChar_3b067_57 : decode cJ2_getChar_3b067 57 = .ok (.ior, 1) := by decide +kernel
theorem dJ2_getChar_3b067_58 : decode cJ2_getChar_3b067 58 = .ok (.i2c, 1) := by decide +kernel
theorem dJ2_getChar_3b067_59 : decode cJ2_getChar_3b067 59 = .ok (.ireturn, 1) := by decide +kernel
theorem dJ2_length_9d52b_0 : decode cJ2_length_9d52b 0 = .ok (.aload_n 0, 1) := by decide +kernel
theorem dJ2_length_9d52b_1 : decode cJ2_length_9d52b 1 = .ok (.arraylength, 1) := by decide +kernel
theorem dJ2_length_9d52b_2 : decode cJ2_length_9d52b 2 = .ok (.iconst 1, 1) := by decide +kernel
theorem dJ2_length_9d52b_3 : decode cJ2_length_9d52b 3 = .ok (.ishr, 1) := by decide +kernel
theorem dJ2_length_9d52b_4 : decode cJ2_length_9d52b 4 = .ok (.ireturn, 1) := by decide +kernel
theorem dJ2_coderFromArrayLen_85cad_0 : decode cJ2_coderFromArrayLen_85cad 0 = .ok (.iload_n 1, 1) := by decide +kernel
theorem dJ2_coderFromArrayLen_85cad_1 : decode cJ2_coderFromArrayLen_85cad 1 = .ok (.aload_n 0, 1) := by decide +kernel
theorem dJ2_coderFromArrayLen_85cad_2 : decode cJ2_coderFromArrayLen_85cad 2 = .ok (.arraylength, 1) := by decide +kernel
theorem dJ2_coderFromArrayLen_85cad_3 : decode cJ2_coderFromArrayLen_85cad 3 = .ok (.isub, 1) := by decide +kernel
theorem dJ2_coderFromArrayLen_85cad_4 : decode cJ2_coderFromArrayLen_85cad 4 = .ok (.bipush 31, 2) := by decide +kernel
theorem dJ2_coderFromArrayLen_85cad_6 : decode cJ2_coderFromArrayLen_85cad 6 = .ok (.iushr, 1) := by decide +kernel
theorem dJ2_coderFromArrayLen_85cad_7 : decode cJ2_coderFromArrayLen_85cad 7 = .ok (.i2b, 1) := by decide +kernel
theorem dJ2_coderFromArrayLen_85cad_8 : decode cJ2_coderFromArrayLen_85cad 8 = .ok (.ireturn, 1) := by decide +kernel
theorem dJ2_compress_39247_0 : decode cJ2_compress_39247 0 = .ok (.iload_n 2, 1) := by decide +kernel
theorem dJ2_compress_39247_1 : decode cJ2_compress_39247 1 = .ok (.newarray .byte, 2) := by decide +kernel
theorem dJ2_compress_39247_3 : decode cJ2_compress_39247 3 = .ok (.astore_n 3, 1) := by decide +kernel
theorem dJ2_compress_39247_4 : decode cJ2_compress_39247 4 = .ok (.aload_n 0, 1) := by decide +kernel
theorem dJ2_compress_39247_5 : decode cJ2_compress_39247 5 = .ok (.iload_n 1, 1) := by decide +kernel
theorem dJ2_compress_39247_6 : decode cJ2_compress_39247 6 = .ok (.aload_n 3, 1) := by decide +kernel
theorem dJ2_compress_39247_7 : decode cJ2_compress_39247 7 = .ok (.iconst 0, 1) := by decide +kernel
theorem dJ2_compress_39247_8 : decode cJ2_compress_39247 8 = .ok (.iload_n 2, 1) := by decide +kernel
theorem dJ2_compress_39247_9 : decode cJ2_compress_39247 9 = .ok (.invokestatic 123, 3) := by decide +kernel
theorem dJ2_compress_39247_12 : decode cJ2_compress_39247 12 = .ok (.istore 4, 2) := by decide +kernel
theorem dJ2_compress_39247_14 : decode cJ2_compress_39247 14 = .ok (.iload 4, 2) := by decide +kernel
theorem dJ2_compress_39247_16 : decode cJ2_compress_39247 16 = .ok (.iload_n 2, 1) := by decide +kernel
theorem dJ2_compress_39247_17 : decode cJ2_compress_39247 17 = .ok (.if_icmp .eq 47, 3) := by decide +kernel
theorem dJ2_compress_39247_20 : decode cJ2_compress_39247 20 = .ok (.aload_n 0, 1) := by decide +kernel
theorem dJ2_compress_39247_21 : decode cJ2_compress_39247 21 = .ok (.iload_n 1, 1) := by decide +kernel
theorem dJ2_compress_39247_22 : decode cJ2_compress_39247 22 = .ok (.iconst 1, 1) := by decide +kernel
theorem dJ2_compress_39247_23 : decode cJ2_compress_39247 23 = .ok (.ishl, 1) := by decide +kernel
theorem dJ2_compress_39247_24 : decode cJ2_compress_39247 24 = .ok (.iload_n 1, 1) := by decide +kernel
theorem dJ2_compress_39247_25 : decode cJ2_compress_39247 25 = .ok (.iload_n 2, 1) := by decide +kernel
theorem dJ2_compress_39247_26 : decode cJ2_compress_39247 26 = .ok (.iadd, 1) := by decide +kernel
theorem dJ2_compress_39247_27 : decode cJ2_compress_39247 27 = .ok (.invokestatic 11, 3) := by decide +kernel
theorem dJ2_compress_39247_30 : decode cJ2_compress_39247 30 = .ok (.invokestatic 126, 3) := by decide +kernel
theorem dJ2_compress_39247_33 : decode cJ2_compress_39247 33 = .ok (.astore 5, 2) := by decide +kernel
theorem dJ2_compress_39247_35 : decode cJ2_compress_39247 35 = .ok (.aload 5, 2) := by decide +kernel
theorem dJ2_compress_39247_37 : decode cJ2_compress_39247 37 = .ok (.iload 4, 2) := by decide +kernel
theorem dJ2_compress_39247_39 : decode cJ2_compress_39247 39 = .ok (.invokestatic 71, 3) := by decide +kernel
theorem dJ2_compress_39247_42 : decode cJ2_compress_39247 42 = .ok (.sipush 255, 3) := by decide +kernel
theorem dJ2_compress_39247_45 : decode cJ2_compress_39247 45 = .ok (.if_icmp .gt 16, 3) := by decide +kernel
theorem dJ2_compress_39247_48 : decode cJ2_compress_39247 48 = .ok (.aload 5, 2) := by decide +kernel
theorem dJ2_compress_39247_50 : decode cJ2_compress_39247 50 = .ok (.iconst 0, 1) := by decide +kernel
theorem dJ2_compress_39247_51 : decode cJ2_compress_39247 51 = .ok (.aload_n 3, 1) := by decide +kernel
theorem dJ2_compress_39247_52 : decode cJ2_compress_39247 52 = .ok (.iconst 0, 1) := by decide +kernel
theorem dJ2_compress_39247_53 : decode cJ2_compress_39247 53 = .ok (.iload_n 2, 1) := by decide +kernel
theorem dJ2_compress_39247_54 : decode cJ2_compress_39247 54 = .ok (.invokestatic 123, 3) := by decide +kernel
theorem dJ2_compress_39247_57 : decode cJ2_compress_39247 57 = .ok (.iload_n 2, 1) := by decide +kernel
theorem dJ2_compress_39247_58 : decode cJ2_compress_39247 58 = .ok (.if_icmp .eq 6, 3) := by decide +kernel
theorem dJ2_compress_39247_61 : decode cJ2_compress_39247 61 = .ok (.aload 5, 2) := by decide +kernel
theorem dJ2_compress_39247_63 : decode cJ2_compress_39247 63 = .ok (.areturn, 1) := by decide +kernel
theorem dJ2_compress_39247_64 : decode cJ2_compress_39247 64 = .ok (.aload_n 3, 1) := by decide +kernel
theorem dJ2_compress_39247_65 : decode cJ2_compress_39247 65 = .ok (.areturn, 1) := by decide +kernel
theorem dJ2_compress_5af95_0 : decode cJ2_compress_5af95 0 = .ok (.iload_n 1, 1) := by decide +kernel
theorem dJ2_compress_5af95_1 : decode cJ2_compress_5af95 1 = .ok (.iload 4, 2) := by decide +kernel
theorem dJ2_compress_5af95_3 : decode cJ2_compress_5af95 3 = .ok (.aload_n 0, 1) := by decide +kernel
theorem dJ2_compress_5af95_4 : decode cJ2_compress_5af95 4 = .ok (.invokestatic 173, 3) := by decide +kernel
theorem dJ2_compress_5af95_7 : decode cJ2_compress_5af95 7 = .ok (.iconst 0, 1) := by decide +kernel
theorem dJ2_compress_5af95_8 : decode cJ2_compress_5af95 8 = .ok (.istore 5, 2) := by decide +kernel
theorem dJ2_compress_5af95_10 : decode cJ2_compress_5af95 10 = .ok (.iload 5, 2) := by decide +kernel
theorem dJ2_compress_5af95_12 : decode cJ2_compress_5af95 12 = .ok (.iload 4, 2) := by decide +kernel
theorem dJ2_compress_5af95_14 : decode cJ2_compress_5af95 14 = .ok (.if_icmp .ge 39, 3) := by decide +kernel
theorem dJ2_compress_5af95_17 : decode cJ2_compress_5af95 17 = .ok (.aload_n 0, 1) := by decide +kernel
theorem dJ2_compress_5af95_18 : decode cJ2_compress_5af95 18 = .ok (.iload_n 1, 1) := by decide +kernel
theorem dJ2_compress_5af95_19 : decode cJ2_compress_5af95 19 = .ok (.invokestatic 71, 3) := by decide +kernel
theorem dJ2_compress_5af95_22 : decode cJ2_compress_5af95 22 = .ok (.istore 6, 2) := by decide +kernel
theorem dJ2_compress_5af95_24 : decode cJ2_compress_5af95 24 = .ok (.iload 6, 2) := by decide +kernel
theorem dJ2_compress_5af95_26 : decode cJ2_compress_5af95 26 = .ok (.sipush 255, 3) := by decide +kernel
theorem dJ2_compress_5af95_29 : decode cJ2_compress_5af95 29 = .ok (.if_icmp .le 6, 3) := by decide +kernel
theorem dJ2_compress_5af95_32 : decode cJ2_compress_5af95 32 = .ok (.iload 5, 2) := by decide +kernel
theorem dJ2_compress_5af95_34 : decode cJ2_compress_5af95 34 = .ok (.ireturn, 1) := by decide +kernel
theorem dJ2_compress_5af95_35 : decode cJ2_compress_5af95 35 = .ok (.aload_n 2, 1) := by decide +kernel
theorem dJ2_compress_5af95_36 : decode cJ2_compress_5af95 36 = .ok (.iload_n 3, 1) := by decide +kernel
theorem dJ2_compress_5af95_37 : decode cJ2_compress_5af95 37 = .ok (.iload 6, 2) := by decide +kernel
theorem dJ2_compress_5af95_39 : decode cJ2_compress_5af95 39 = .ok (.i2b, 1) := by decide +kernel
theorem dJ2_compress_5af95_40 : decode cJ2_compress_5af95 40 = .ok (.bastore, 1) := by decide +kernel
theorem dJ2_compress_5af95_41 : decode cJ2_compress_5af95 41 = .ok (.iinc 1 1, 3) := by decide +kernel
theorem dJ2_compress_5af95_44 : decode cJ2_compress_5af95 44 = .ok (.iinc 3 1, 3) := by decide +kernel
theorem dJ2_compress_5af95_47 : decode cJ2_compress_5af95 47 = .ok (.iinc 5 1, 3) := by decide +kernel
theorem dJ2_compress_5af95_50 : decode cJ2_compress_5af95 50 = .ok (.goto (-40), 3) := by decide +kernel
theorem dJ2_compress_5af95_53 : decode cJ2_compress_5af95 53 = .ok (.iload 4, 2) := by decide +kernel
theorem dJ2_compress_5af95_55 : decode cJ2_compress_5af95 55 = .ok (.ireturn, 1) := by decide +kernel
theorem dJ2_fillNull_b72d1_0 : decode cJ2_fillNull_b72d1 0 = .ok (.aload_n 0, 1) := by decide +kernel
theorem dJ2_fillNull_b72d1_1 : decode cJ2_fillNull_b72d1 1 = .ok (.iload_n 1, 1) := by decide +kernel
theorem dJ2_fillNull_b72d1_2 : decode cJ2_fillNull_b72d1 2 = .ok (.iconst 1, 1) := by decide +kernel
theorem dJ2_fillNull_b72d1_3 : decode cJ2_fillNull_b72d1 3 = .ok (.ishl, 1) := by decide +kernel
theorem dJ2_fillNull_b72d1_4 : decode cJ2_fillNull_b72d1 4 = .ok (.iload_n 2, 1) := by decide +kernel
theorem dJ2_fillNull_b72d1_5 : decode cJ2_fillNull_b72d1 5 = .ok (.iconst 1, 1) := by decide +kernel
theorem dJ2_fillNull_b72d1_6 : decode cJ2_fillNull_b72d1 6 = .ok (.ishl, 1) := by decide +kernel
theorem dJ2_fillNull_b72d1_7 : decode cJ2_fillNull_b72d1 7 = .ok (.iconst 0, 1) := by decide +kernel
theorem dJ2_fillNull_b72d1_8 : decode cJ2_fillNull_b72d1 8 = .ok (.invokestatic 380, 3) := by decide +kernel
theorem dJ2_fillNull_b72d1_11 : decode cJ2_fillNull_b72d1 11 = .ok (.return_, 1) := by decide +kernel
theorem dJ2_putCharSB_b72d1_0 : decode cJ2_putCharSB_b72d1 0 = .ok (.iload_n 1, 1) := by decide +kernel
theorem dJ2_putCharSB_b72d1_1 : decode cJ2_putCharSB_b72d1 1 = .ok (.aload_n 0, 1) := by decide +kernel
theorem dJ2_putCharSB_b72d1_2 : decode cJ2_putCharSB_b72d1 2 = .ok (.invokestatic 67, 3) := by decide +kernel
theorem dJ2_putCharSB_b72d1_5 : decode cJ2_putCharSB_b72d1 5 = .ok (.aload_n 0, 1) := by decide +kernel
theorem dJ2_putCharSB_b72d1_6 : decode cJ2_putCharSB_b72d1 6 = .ok (.iload_n 1, 1) := by decide +kernel
theorem dJ2_putCharSB_b72d1_7 : decode cJ2_putCharSB_b72d1 7 = .ok (.iload_n 2, 1) := by decide +kernel
theorem dJ2_putCharSB_b72d1_8 : decode cJ2_putCharSB_b72d1 8 = .ok (.invokestatic 111, 3) := by decide +kernel
theorem dJ2_putCharSB_b72d1_11 : decode cJ2_putCharSB_b72d1 11 = .ok (.return_, 1) := by decide +kernel
theorem dJ2_getChars_46870_0 : decode cJ2_getChars_46870 0 = .ok (.iload_n 1, 1) := by decide +kernel
theorem dJ2_getChars_46870_1 : decode cJ2_getChars_46870 1 = .ok (.iload_n 2, 1) := by decide +kernel
theorem dJ2_getChars_46870_2 : decode cJ2_getChars_46870 2 = .ok (.aload_n 3, 1) := by decide +kernel
theorem dJ2_getChars_46870_3 : decode cJ2_getChars_46870 3 = .ok (.invokestatic 96, 3) := by decide +kernel
theorem dJ2_getChars_46870_6 : decode cJ2_getChars_46870 6 = .ok (.iload_n 0, 1) := by decide +kernel
theorem dJ2_getChars_46870_7 : decode cJ2_getChars_46870 7 = .ok (.iload_n 2, 1) := by decide +kernel
theorem dJ2_getChars_46870_8 : decode cJ2_getChars_46870 8 = .ok (.aload_n 3, 1) := by decide +kernel
theorem dJ2_getChars_46870_9 : decode cJ2_getChars_46870 9 = .ok (.invokestatic 393, 3) := by decide +kernel
theorem dJ2_getChars_46870_12 : decode cJ2_getChars_46870 12 = .ok (.istore 4, 2) := by decide +kernel
theorem dJ2_getChars_46870_14 : decode cJ2_getChars_46870 14 = .ok (.getstatic 44, 3) := by decide +kernel
theorem dJ2_getChars_46870_17 : decode cJ2_getChars_46870 17 = .ok (.ifCond .ne 17, 3) := by decide +kernel
theorem dJ2_getChars_46870_20 : decode cJ2_getChars_46870 20 = .ok (.iload_n 1, 1) := by decide +kernel
theorem dJ2_getChars_46870_21 : decode cJ2_getChars_46870 21 = .ok (.iload 4, 2) := by decide +kernel
theorem dJ2_getChars_46870_23 : decode cJ2_getChars_46870 23 = .ok (.if_icmp .eq 11, 3) := by decide +kernel
theorem dJ2_getChars_46870_26 : decode cJ2_getChars_46870 26 = .ok (.new 52, 3) := by decide +kernel
theorem dJ2_getChars_46870_29 : decode cJ2_getChars_46870 29 = .ok (.dup, 1) := by decide +kernel
theorem dJ2_getChars_46870_30 : decode cJ2_getChars_46870 30 = .ok (.invokespecial 66, 3) := by decide +kernel
theorem dJ2_getChars_46870_33 : decode cJ2_getChars_46870 33 = .ok (.athrow, 1) := by decide +kernel
theorem dJ2_getChars_46870_34 : decode cJ2_getChars_46870 34 = .ok (.iload 4, 2) := by decide +kernel
theorem dJ2_getChars_46870_36 : decode cJ2_getChars_46870 36 = .ok (.ireturn, 1) := by decide +kernel
theorem dJ2_putCharsAt_cd4e5_0 : decode cJ2_putCharsAt_cd4e5 0 = .ok (.iload_n 1, 1) := by decide +kernel
theorem dJ2_putCharsAt_cd4e5_1 : decode cJ2_putCharsAt_cd4e5 1 = .ok (.iconst 4, 1) := by decide +kernel
theorem dJ2_putCharsAt_cd4e5_2 : decode cJ2_putCharsAt_cd4e5 2 = .ok (.iadd, 1) := by decide +kernel
theorem dJ2_putCharsAt_cd4e5_3 : decode cJ2_putCharsAt_cd4e5 3 = .ok (.istore 6, 2) := by decide +kernel
theorem dJ2_putCharsAt_cd4e5_5 : decode cJ2_putCharsAt_cd4e5 5 = .ok (.iload_n 1, 1) := by decide +kernel
theorem dJ2_putCharsAt_cd4e5_6 : decode cJ2_putCharsAt_cd4e5 6 = .ok (.iload 6, 2) := by decide +kernel
theorem dJ2_putCharsAt_cd4e5_8 : decode cJ2_putCharsAt_cd4e5 8 = .ok (.aload_n 0, 1) := by decide +kernel
theorem dJ2_putCharsAt_cd4e5_9 : decode cJ2_putCharsAt_cd4e5 9 = .ok (.invokestatic 96, 3) := by decide +kernel
theorem dJ2_putCharsAt_cd4e5_12 : decode cJ2_putCharsAt_cd4e5 12 = .ok (.aload_n 0, 1) := by decide +kernel
theorem dJ2_putCharsAt_cd4e5_13 : decode cJ2_putCharsAt_cd4e5 13 = .ok (.iload_n 1, 1) := by decide +kernel
theorem dJ2_putCharsAt_cd4e5_14 : decode cJ2_putCharsAt_cd4e5 14 = .ok (.iinc 1 1, 3) := by decide +kernel
theorem dJ2_putCharsAt_cd4e5_17 : decode cJ2_putCharsAt_cd4e5 17 = .ok (.iload_n 2, 1) := by decide +kernel
theorem dJ2_putCharsAt_cd4e5_18 : decode cJ2_putCharsAt_cd4e5 18 = .ok (.invokestatic 111, 3) := by decide +kernel
theorem dJ2_putCharsAt_cd4e5_21 : decode cJ2_putCharsAt_cd4e5 21 = .ok (.aload_n 0, 1) := by decide +kernel
theorem dJ2_putCharsAt_cd4e5_22 : decode cJ2_putCharsAt_cd4e5 22 = .ok (.iload_n 1, 1) := by decide +kernel
theorem dJ2_putCharsAt_cd4e5_23 : decode cJ2_putCharsAt_cd4e5 23 = .ok (.iinc 1 1, 3) := by decide +kernel
theorem dJ2_putCharsAt_cd4e5_26 : decode cJ2_putCharsAt_cd4e5 26 = .ok (.iload_n 3, 1) := by decide +kernel
theorem dJ2_putCharsAt_cd4e5_27 : decode cJ2_putCharsAt_cd4e5 27 = .ok (.invokestatic 111, 3) := by decide +kernel
theorem dJ2_putCharsAt_cd4e5_30 : decode cJ2_putCharsAt_cd4e5 30 = .ok (.aload_n 0, 1) := by decide +kernel
theorem dJ2_putCharsAt_cd4e5_31 : decode cJ2_putCharsAt_cd4e5 31 = .ok (.iload_n 1, 1) := by decide +kernel
theorem dJ2_putCharsAt_cd4e5_32 : decode cJ2_putCharsAt_cd4e5 32 = .ok (.iinc 1 1, 3) := by decide +kernel
theorem dJ2_putCharsAt_cd4e5_35 : decode cJ2_putCharsAt_cd4e5 35 = .ok (.iload 4, 2) := by decide +kernel
theorem dJ2_putCharsAt_cd4e5_37 : decode cJ2_putCharsAt_cd4e5 37 = .ok (.invokestatic 111, 3) := by decide +kernel
theorem dJ2_putCharsAt_cd4e5_40 : decode cJ2_putCharsAt_cd4e5 40 = .ok (.aload_n 0, 1) := by decide +kernel
theorem dJ2_putCharsAt_cd4e5_41 : decode cJ2_putCharsAt_cd4e5 41 = .ok (.iload_n 1, 1) := by decide +kernel
theorem dJ2_putCharsAt_cd4e5_42 : decode cJ2_putCharsAt_cd4e5 42 = .ok (.iinc 1 1, 3) := by decide +kernel
theorem dJ2_putCharsAt_cd4e5_45 : decode cJ2_putCharsAt_cd4e5 45 = .ok (.iload 5, 2) := by decide +kernel
theorem dJ2_putCharsAt_cd4e5_47 : decode cJ2_putCharsAt_cd4e5 47 = .ok (.invokestatic 111, 3) := by decide +kernel
theorem dJ2_putCharsAt_cd4e5_50 : decode cJ2_putCharsAt_cd4e5 50 = .ok (.getstatic 44, 3) := by decide +kernel
theorem dJ2_putCharsAt_cd4e5_53 : decode cJ2_putCharsAt_cd4e5 53 = .ok (.ifCond .ne 17, 3) := by decide +kernel
theorem dJ2_putCharsAt_cd4e5_56 : decode cJ2_putCharsAt_cd4e5 56 = .ok (.iload_n 1, 1) := by decide +kernel
theorem dJ2_putCharsAt_cd4e5_57 : decode cJ2_putCharsAt_cd4e5 57 = .ok (.iload 6, 2) := by decide +kernel
theorem dJ2_putCharsAt_cd4e5_59 : decode cJ2_putCharsAt_cd4e5 59 = .ok (.if_icmp .eq 11, 3) := by decide +kernel
theorem dJ2_putCharsAt_cd4e5_62 : decode cJ2_putCharsAt_cd4e5 62 = .ok (.new 52, 3) := by decide +kernel
theorem dJ2_putCharsAt_cd4e5_65 : decode cJ2_putCharsAt_cd4e5 65 = .ok (.dup, 1) := by decide +kernel
theorem dJ2_putCharsAt_cd4e5_66 : decode cJ2_putCharsAt_cd4e5 66 = .ok (.invokespecial 66, 3) := by decide +kernel
theorem dJ2_putCharsAt_cd4e5_69 : decode cJ2_putCharsAt_cd4e5 69 = .ok (.athrow, 1) := by decide +kernel
theorem dJ2_putCharsAt_cd4e5_70 : decode cJ2_putCharsAt_cd4e5 70 = .ok (.iload 6, 2) := by decide +kernel
theorem dJ2_putCharsAt_cd4e5_72 : decode cJ2_putCharsAt_cd4e5 72 = .ok (.ireturn, 1) := by decide +kernel
theorem dJ2_charAt_3b067_0 : decode cJ2_charAt_3b067 0 = .ok (.iload_n 1, 1) := by decide +kernel
theorem dJ2_charAt_3b067_1 : decode cJ2_charAt_3b067 1 = .ok (.aload_n 0, 1) := by decide +kernel
theorem dJ2_charAt_3b067_2 : decode cJ2_charAt_3b067 2 = .ok (.invokestatic 67, 3) := by decide +kernel
theorem dJ2_charAt_3b067_5 : decode cJ2_charAt_3b067 5 = .ok (.aload_n 0, 1) := by decide +kernel
theorem dJ2_charAt_3b067_6 : decode cJ2_charAt_3b067 6 = .ok (.iload_n 1, 1) := by decide +kernel
theorem dJ2_charAt_3b067_7 : decode cJ2_charAt_3b067 7 = .ok (.invokestatic 71, 3) := by decide +kernel
theorem dJ2_charAt_3b067_10 : decode cJ2_charAt_3b067 10 = .ok (.ireturn, 1) := by decide +kernel
theorem dJ2_inflate_0e8fd_0 : decode cJ2_inflate_0e8fd 0 = .ok (.iload_n 3, 1) := by decide +kernel
theorem dJ2_inflate_0e8fd_1 : decode cJ2_inflate_0e8fd 1 = .ok (.iload 4, 2) := by decide +kernel
theorem dJ2_inflate_0e8fd_3 : decode cJ2_inflate_0e8fd 3 = .ok (.aload_n 2, 1) := by decide +kernel
theorem dJ2_inflate_0e8fd_4 : decode cJ2_inflate_0e8fd 4 = .ok (.invokestatic 173, 3) := by decide +kernel
theorem dJ2_inflate_0e8fd_7 : decode cJ2_inflate_0e8fd 7 = .ok (.iconst 0, 1) := by decide +kernel
theorem dJ2_inflate_0e8fd_8 : decode cJ2_inflate_0e8fd 8 = .ok (.istore 5, 2) := by decide +kernel
theorem dJ2_inflate_0e8fd_10 : decode cJ2_inflate_0e8fd 10 = .ok (.iload 5, 2) := by decide +kernel
theorem dJ2_inflate_0e8fd_12 : decode cJ2_inflate_0e8fd 12 = .ok (.iload 4, 2) := by decide +kernel
theorem dJ2_inflate_0e8fd_14 : decode cJ2_inflate_0e8fd 14 = .ok (.if_icmp .ge 27, 3) := by decide +kernel
theorem dJ2_inflate_0e8fd_17 : decode cJ2_inflate_0e8fd 17 = .ok (.aload_n 2, 1) := by decide +kernel
theorem dJ2_inflate_0e8fd_18 : decode cJ2_inflate_0e8fd 18 = .ok (.iload_n 3, 1) := by decide +kernel
theorem dJ2_inflate_0e8fd_19 : decode cJ2_inflate_0e8fd 19 = .ok (.iinc 3 1, 3) := by decide +kernel
theorem dJ2_inflate_0e8fd_22 : decode cJ2_inflate_0e8fd 22 = .ok (.aload_n 0, 1) := by decide +kernel
theorem dJ2_inflate_0e8fd_23 : decode cJ2_inflate_0e8fd 23 = .ok (.iload_n 1, 1) := by decide +kernel
theorem dJ2_inflate_0e8fd_24 : decode cJ2_inflate_0e8fd 24 = .ok (.iinc 1 1, 3) := by decide +kernel
theorem dJ2_inflate_0e8fd_27 : decode cJ2_inflate_0e8fd 27 = .ok (.baload, 1) := by decide +kernel
theorem dJ2_inflate_0e8fd_28 : decode cJ2_inflate_0e8fd 28 = .ok (.sipush 255, 3) := by decide +kernel
theorem dJ2_inflate_0e8fd_31 : decode cJ2_inflate_0e8fd 31 = .ok (.iand, 1) := by decide +kernel
theorem dJ2_inflate_0e8fd_32 : decode cJ2_inflate_0e8fd 32 = .ok (.invokestatic 111, 3) := by decide +kernel
theorem dJ2_inflate_0e8fd_35 : decode cJ2_inflate_0e8fd 35 = .ok (.iinc 5 1, 3) := by decide +kernel
theorem dJ2_inflate_0e8fd_38 : decode cJ2_inflate_0e8fd 38 = .ok (.goto (-28), 3) := by decide +kernel
theorem dJ2_inflate_0e8fd_41 : decode cJ2_inflate_0e8fd 41 = .ok (.return_, 1) := by decide +kernel
theorem dJ2_getChars_ba4f3_0 : decode cJ2_getChars_ba4f3 0 = .ok (.iload_n 1, 1) := by decide +kernel
theorem dJ2_getChars_ba4f3_1 : decode cJ2_getChars_ba4f3 1 = .ok (.istore 5, 2) := by decide +kernel
theorem dJ2_getChars_ba4f3_3 : decode cJ2_getChars_ba4f3 3 = .ok (.iload_n 0, 1) := by decide +kernel
theorem dJ2_getChars_ba4f3_4 : decode cJ2_getChars_ba4f3 4 = .ok (.ifCond .ge 7, 3) := by decide +kernel
theorem dJ2_getChars_ba4f3_7 : decode cJ2_getChars_ba4f3 7 = .ok (.iconst 1, 1) := by decide +kernel
theorem dJ2_getChars_ba4f3_8 : decode cJ2_getChars_ba4f3 8 = .ok (.goto 4, 3) := by decide +kernel
theorem dJ2_getChars_ba4f3_11 : decode cJ2_getChars_ba4f3 11 = .ok (.iconst 0, 1) := by decide +kernel
theorem dJ2_getChars_ba4f3_12 : decode cJ2_getChars_ba4f3 12 = .ok (.istore 6, 2) := by decide +kernel
theorem dJ2_getChars_ba4f3_14 : decode cJ2_getChars_ba4f3 14 = .ok (.iload 6, 2) := by decide +kernel
theorem dJ2_getChars_ba4f3_16 : decode cJ2_getChars_ba4f3 16 = .ok (.ifCond .ne 6, 3) := by decide +kernel
theorem dJ2_getChars_ba4f3_19 : decode cJ2_getChars_ba4f3 19 = .ok (.iload_n 0, 1) := by decide +kernel
theorem dJ2_getChars_ba4f3_20 : decode cJ2_getChars_ba4f3 20 = .ok (.ineg, 1) := by decide +kernel
theorem dJ2_getChars_ba4f3_21 : decode cJ2_getChars_ba4f3 21 = .ok (.istore_n 0, 1) := by decide +kernel
theorem dJ2_getChars_ba4f3_22 : decode cJ2_getChars_ba4f3 22 = .ok (.iload_n 0, 1) := by decide +kernel
theorem dJ2_getChars_ba4f3_23 : decode cJ2_getChars_ba4f3 23 = .ok (.bipush (-100), 2) := by decide +kernel
theorem dJ2_getChars_ba4f3_25 : decode cJ2_getChars_ba4f3 25 = .ok (.if_icmp .gt 51, 3) := by decide +kernel
theorem dJ2_getChars_ba4f3_28 : decode cJ2_getChars_ba4f3 28 = .ok (.iload_n 0, 1) := by decide +kernel
theorem dJ2_getChars_ba4f3_29 : decode cJ2_getChars_ba4f3 29 = .ok (.bipush 100, 2) := by decide +kernel
theorem dJ2_getChars_ba4f3_31 : decode cJ2_getChars_ba4f3 31 = .ok (.idiv, 1) := by decide +kernel
theorem dJ2_getChars_ba4f3_32 : decode cJ2_getChars_ba4f3 32 = .ok (.istore_n 3, 1) := by decide +kernel
theorem dJ2_getChars_ba4f3_33 : decode cJ2_getChars_ba4f3 33 = .ok (.iload_n 3, 1) := by decide +kernel
theorem dJ2_getChars_ba4f3_34 : decode cJ2_getChars_ba4f3 34 = .ok (.bipush 100, 2) := by decide +kernel
theorem dJ2_getChars_ba4f3_36 : decode cJ2_getChars_ba4f3 36 = .ok (.imul, 1) := by decide +kernel
theorem dJ2_getChars_ba4f3_37 : decode cJ2_getChars_ba4f3 37 = .ok (.iload_n 0, 1) := by decide +kernel
theorem dJ2_getChars_ba4f3_38 : decode cJ2_getChars_ba4f3 38 = .ok (.isub, 1) := by decide +kernel
theorem dJ2_getChars_ba4f3_39 : decode cJ2_getChars_ba4f3 39 = .ok (.istore 4, 2) := by decide +kernel
theorem dJ2_getChars_ba4f3_41 : decode cJ2_getChars_ba4f3 41 = .ok (.iload_n 3, 1) := by decide +kernel
theorem dJ2_getChars_ba4f3_42 : decode cJ2_getChars_ba4f3 42 = .ok (.istore_n 0, 1) := by decide +kernel
theorem dJ2_getChars_ba4f3_43 : decode cJ2_getChars_ba4f3 43 = .ok (.aload_n 2, 1) := by decide +kernel
theorem dJ2_getChars_ba4f3_44 : decode cJ2_getChars_ba4f3 44 = .ok (.iinc 5 (-1), 3) := by decide +kernel
theorem dJ2_getChars_ba4f3_47 : decode cJ2_getChars_ba4f3 47 = .ok (.iload 5, 2) := by decide +kernel
theorem dJ2_getChars_ba4f3_49 : decode cJ2_getChars_ba4f3 49 = .ok (.getstatic 403, 3) := by decide +kernel
theorem dJ2_getChars_ba4f3_52 : decode cJ2_getChars_ba4f3 52 = .ok (.iload 4, 2) := by decide +kernel
theorem dJ2_getChars_ba4f3_54 : decode cJ2_getChars_ba4f3 54 = .ok (.baload, 1) := by decide +kernel
theorem dJ2_getChars_ba4f3_55 : decode cJ2_getChars_ba4f3 55 = .ok (.invokestatic 111, 3) := by decide +kernel
theorem dJ2_getChars_ba4f3_58 : decode cJ2_getChars_ba4f3 58 = .ok (.aload_n 2, 1) := by decide +kernel
theorem dJ2_getChars_ba4f3_59 : decode cJ2_getChars_ba4f3 59 = .ok (.iinc 5 (-1), 3) := by decide +kernel
theorem dJ2_getChars_ba4f3_62 : decode cJ2_getChars_ba4f3 62 = .ok (.iload 5, 2) := by decide +kernel
theorem dJ2_getChars_ba4f3_64 : decode cJ2_getChars_ba4f3 64 = .ok (.getstatic 407, 3) := by decide +kernel
theorem dJ2_getChars_ba4f3_67 : decode cJ2_getChars_ba4f3 67 = .ok (.iload 4, 2) := by decide +kernel
theorem dJ2_getChars_ba4f3_69 : decode cJ2_getChars_ba4f3 69 = .ok (.baload, 1) := by decide +kernel
theorem dJ2_getChars_ba4f3_70 : decode cJ2_getChars_ba4f3 70 = .ok (.invokestatic 111, 3) := by decide +kernel
theorem dJ2_getChars_ba4f3_73 : decode cJ2_getChars_ba4f3 73 = .ok (.goto (-51), 3) := by decide +kernel
theorem dJ2_getChars_ba4f3_76 : decode cJ2_getChars_ba4f3 76 = .ok (.aload_n 2, 1) := by decide +kernel
theorem dJ2_getChars_ba4f3_77 : decode cJ2_getChars_ba4f3 77 = .ok (.iinc 5 (-1), 3) := by decide +kernel
theorem dJ2_getChars_ba4f3_80 : decode cJ2_getChars_ba4f3 80 = .ok (.iload 5, 2) := by decide +kernel
theorem dJ2_getChars_ba4f3_82 : decode cJ2_getChars_ba4f3 82 = .ok (.getstatic 403, 3) := by decide +kernel
theorem dJ2_getChars_ba4f3_85 : decode cJ2_getChars_ba4f3 85 = .ok (.iload_n 0, 1) := by decide +kernel
theorem dJ2_getChars_ba4f3_86 : decode cJ2_getChars_ba4f3 86 = .ok (.ineg, 1) := by decide +kernel
theorem dJ2_getChars_ba4f3_87 : decode cJ2_getChars_ba4f3 87 = .ok (.baload, 1) := by decide +kernel
theorem dJ2_getChars_ba4f3_88 : decode cJ2_getChars_ba4f3 88 = .ok (.invokestatic 111, 3) := by decide +kernel
theorem dJ2_getChars_ba4f3_91 : decode cJ2_getChars_ba4f3 91 = .ok (.iload_n 0, 1) := by decide +kernel
theorem dJ2_getChars_ba4f3_92 : decode cJ2_getChars_ba4f3 92 = .ok (.bipush (-9), 2) := by decide +kernel
theorem dJ2_getChars_ba4f3_94 : decode cJ2_getChars_ba4f3 94 = .ok (.if_icmp .ge 18, 3) := by decide +kernel
theorem dJ2_getChars_ba4f3_97 : decode cJ2_getChars_ba4f3 97 = .ok (.aload_n 2, 1) := by decide +kernel
theorem dJ2_getChars_ba4f3_98 : decode cJ2_getChars_ba4f3 98 = .ok (.iinc 5 (-1), 3) := by decide +kernel
theorem dJ2_getChars_ba4f3_101 : decode cJ2_getChars_ba4f3 101 = .ok (.iload 5, 2) := by decide +kernel
theorem dJ2_getChars_ba4f3_103 : decode cJ2_getChars_ba4f3 103 = .ok (.getstatic 407, 3) := by decide +kernel
theorem dJ2_getChars_ba4f3_106 : decode cJ2_getChars_ba4f3 106 = .ok (.iload_n 0, 1) := by decide +kernel
theorem dJ2_getChars_ba4f3_107 : decode cJ2_getChars_ba4f3 107 = .ok (.ineg, 1) := by decide +kernel
theorem dJ2_getChars_ba4f3_108 : decode cJ2_getChars_ba4f3 108 = .ok (.baload, 1) := by decide +kernel
theorem dJ2_getChars_ba4f3_109 : decode cJ2_getChars_ba4f3 109 = .ok (.invokestatic 111, 3) := by decide +kernel
theorem dJ2_getChars_ba4f3_112 : decode cJ2_getChars_ba4f3 112 = .ok (.iload 6, 2) := by decide +kernel
theorem dJ2_getChars_ba4f3_114 : decode cJ2_getChars_ba4f3 114 = .ok (.ifCond .eq 14, 3) := by decide +kernel
theorem dJ2_getChars_ba4f3_117 : decode cJ2_getChars_ba4f3 117 = .ok (.aload_n 2, 1) := by decide +kernel
theorem dJ2_getChars_ba4f3_118 : decode cJ2_getChars_ba4f3 118 = .ok (.iinc 5 (-1), 3) := by decide +kernel
theorem dJ2_getChars_ba4f3_121 : decode cJ2_getChars_ba4f3 121 = .ok (.iload 5, 2) := by decide +kernel
theorem dJ2_getChars_ba4f3_123 : decode cJ2_getChars_ba4f3 123 = .ok (.bipush 45, 2) := by decide +kernel
theorem dJ2_getChars_ba4f3_125 : decode cJ2_getChars_ba4f3 125 = .ok (.invokestatic 111, 3) := by decide +kernel
theorem dJ2_getChars_ba4f3_128 : decode cJ2_getChars_ba4f3 128 = .ok (.iload 5, 2) := by decide +kernel
theorem dJ2_getChars_ba4f3_130 : decode cJ2_getChars_ba4f3 130 = .ok (.ireturn, 1) := by decide +kernel
theorem dJ2_checkIndex_2214a_0 : decode cJ2_checkIndex_2214a 0 = .ok (.iload_n 0, 1) := by decide +kernel
theorem dJ2_checkIndex_2214a_1 : decode cJ2_checkIndex_2214a 1 = .ok (.aload_n 1, 1) := by decide +kernel
theorem dJ2_checkIndex_2214a_2 : decode cJ2_checkIndex_2214a 2 = .ok (.invokestatic 48, 3) := by decide +kernel
theorem dJ2_checkIndex_2214a_5 : decode cJ2_checkIndex_2214a 5 = .ok (.invokestatic 414, 3) := by decide +kernel
theorem dJ2_checkIndex_2214a_8 : decode cJ2_checkIndex_2214a 8 = .ok (.return_, 1) := by decide +kernel
theorem dJ2_checkBoundsBeginEnd_d044e_0 : decode cJ2_checkBoundsBeginEnd_d044e 0 = .ok (.iload_n 0, 1) := by decide +kernel
theorem dJ2_checkBoundsBeginEnd_d044e_1 : decode cJ2_checkBoundsBeginEnd_d044e 1 = .ok (.iload_n 1, 1) := by decide +kernel
theorem dJ2_checkBoundsBeginEnd_d044e_2 : decode cJ2_checkBoundsBeginEnd_d044e 2 = .ok (.aload_n 2, 1) := by decide +kernel
theorem dJ2_checkBoundsBeginEnd_d044e_3 : decode cJ2_checkBoundsBeginEnd_d044e 3 = .ok (.invokestatic 48, 3) := by decide +kernel
theorem dJ2_checkBoundsBeginEnd_d044e_6 : decode cJ2_checkBoundsBeginEnd_d044e 6 = .ok (.invokestatic 241, 3) := by decide +kernel
theorem dJ2_checkBoundsBeginEnd_d044e_9 : decode cJ2_checkBoundsBeginEnd_d044e 9 = .ok (.return_, 1) := by decide +kernel
theorem dJ2_checkBoundsOffCount_d044e_0 : decode cJ2_checkBoundsOffCount_d044e 0 = .ok (.iload_n 0, 1) := by decide +kernel
theorem dJ2_checkBoundsOffCount_d044e_1 : decode cJ2_checkBoundsOffCount_d044e 1 = .ok (.iload_n 1, 1) := by decide +kernel
theorem dJ2_checkBoundsOffCount_d044e_2 : decode cJ2_checkBoundsOffCount_d044e 2 = .ok (.aload_n 2, 1) := by decide +kernel
theorem dJ2_checkBoundsOffCount_d044e_3 : decode cJ2_checkBoundsOffCount_d044e 3 = .ok (.invokestatic 48, 3) := by decide +kernel
theorem dJ2_checkBoundsOffCount_d044e_6 : decode cJ2_checkBoundsOffCount_d044e 6 = .ok (.invokestatic 419, 3) := by decide +kernel
theorem dJ2_checkBoundsOffCount_d044e_9 : decode cJ2_checkBoundsOffCount_d044e 9 = .ok (.pop, 1) := by decide +kernel
theorem dJ2_checkBoundsOffCount_d044e_10 : decode cJ2_checkBoundsOffCount_d044e 10 = .ok (.return_, 1) := by decide +kernel
theorem dJ7_rangeCheck_23922_0 : decode cJ7_rangeCheck_23922 0 = .ok (.iload_n 1, 1) := by decide +kernel
theorem dJ7_rangeCheck_23922_1 : decode cJ7_rangeCheck_23922 1 = .ok (.iload_n 2, 1) := by decide +kernel
theorem dJ7_rangeCheck_23922_2 : decode cJ7_rangeCheck_23922 2 = .ok (.if_icmp .le 44, 3) := by decide +kernel
theorem dJ7_rangeCheck_23922_5 : decode cJ7_rangeCheck_23922 5 = .ok (.new 43, 3) := by decide +kernel
theorem dJ7_rangeCheck_23922_8 : decode cJ7_rangeCheck_23922 8 = .ok (.dup, 1) := by decide +kernel
theorem dJ7_rangeCheck_23922_9 : decode cJ7_rangeCheck_23922 9 = .ok (.new 45, 3) := by decide +kernel
theorem dJ7_rangeCheck_23922_12 : decode cJ7_rangeCheck_23922 12 = .ok (.dup, 1) := by decide +kernel
theorem dJ7_rangeCheck_23922_13 : decode cJ7_rangeCheck_23922 13 = .ok (.invokespecial 47, 3) := by decide +kernel
theorem dJ7_rangeCheck_23922_16 : decode cJ7_rangeCheck_23922 16 = .ok (.ldc 48, 2) := by decide +kernel
theorem dJ7_rangeCheck_23922_18 : decode cJ7_rangeCheck_23922 18 = .ok (.invokevirtual 50, 3) := by decide +kernel
theorem dJ7_rangeCheck_23922_21 : decode cJ7_rangeCheck_23922 21 = .ok (.iload_n 1, 1) := by decide +kernel
theorem dJ7_rangeCheck_23922_22 : decode cJ7_rangeCheck_23922 22 = .ok (.invokevirtual 54, 3) := by decide +kernel
theorem dJ7_rangeCheck_23922_25 : decode cJ7_rangeCheck_23922 25 = .ok (.ldc 57, 2) := by decide +kernel
theorem dJ7_rangeCheck_23922_27 : decode cJ7_rangeCheck_23922 27 = .ok (.invokevirtual 50, 3) := by decide +kernel
theorem dJ7_rangeCheck_23922_30 : decode cJ7_rangeCheck_23922 30 = .ok (.iload_n 2, 1) := by decide +kernel
theorem dJ7_rangeCheck_23922_31 : decode cJ7_rangeCheck_23922 31 = .ok (.invokevirtual 54, 3) := by decide +kernel
theorem dJ7_rangeCheck_23922_34 : decode cJ7_rangeCheck_23922 34 = .ok (.ldc 59, 2) := by decide +kernel
theorem dJ7_rangeCheck_23922_36 : decode cJ7_rangeCheck_23922 36 = .ok (.invokevirtual 50, 3) := by decide +kernel
theorem dJ7_rangeCheck_23922_39 : decode cJ7_rangeCheck_23922 39 = .ok (.invokevirtual 61, 3) := by decide +kernel
theorem dJ7_rangeCheck_23922_42 : decode cJ7_rangeCheck_23922 42 = .ok (.invokespecial 65, 3) := by decide +kernel
theorem dJ7_rangeCheck_23922_45 : decode cJ7_rangeCheck_23922 45 = .ok (.athrow, 1) := by decide +kernel
theorem dJ7_rangeCheck_23922_46 : decode cJ7_rangeCheck_23922 46 = .ok (.iload_n 1, 1) := by decide +kernel
theorem dJ7_rangeCheck_23922_47 : decode cJ7_rangeCheck_23922 47 = .ok (.ifCond .ge 12, 3) := by decide +kernel
theorem dJ7_rangeCheck_23922_50 : decode cJ7_rangeCheck_23922 50 = .ok (.new 68, 3) := by decide +kernel
theorem dJ7_rangeCheck_23922_53 : decode cJ7_rangeCheck_23922 53 = .ok (.dup, 1) := by decide +kernel
theorem dJ7_rangeCheck_23922_54 : decode cJ7_rangeCheck_23922 54 = .ok (.iload_n 1, 1) := by decide +kernel
theorem dJ7_rangeCheck_23922_55 : decode cJ7_rangeCheck_23922 55 = .ok (.invokespecial 70, 3) := by decide +kernel
theorem dJ7_rangeCheck_23922_58 : decode cJ7_rangeCheck_23922 58 = .ok (.athrow, 1) := by decide +kernel
theorem dJ7_rangeCheck_23922_59 : decode cJ7_rangeCheck_23922 59 = .ok (.iload_n 2, 1) := by decide +kernel
theorem dJ7_rangeCheck_23922_60 : decode cJ7_rangeCheck_23922 60 = .ok (.iload_n 0, 1) := by decide +kernel
theorem dJ7_rangeCheck_23922_61 : decode cJ7_rangeCheck_23922 61 = .ok (.if_icmp .le 12, 3) := by decide +kernel
theorem dJ7_rangeCheck_23922_64 : decode cJ7_rangeCheck_23922 64 = .ok (.new 68, 3) := by decide +kernel
theorem dJ7_rangeCheck_23922_67 : decode cJ7_rangeCheck_23922 67 = .ok (.dup, 1) := by decide +kernel
theorem dJ7_rangeCheck_23922_68 : decode cJ7_rangeCheck_23922 68 = .ok (.iload_n 2, 1) := by decide +kernel
theorem dJ7_rangeCheck_23922_69 : decode cJ7_rangeCheck_23922 69 = .ok (.invokespecial 70, 3) := by decide +kernel
theorem dJ7_rangeCheck_23922_72 : decode cJ7_rangeCheck_23922 72 = .ok (.athrow, 1) := by decide +kernel
theorem dJ7_rangeCheck_23922_73 : decode cJ7_rangeCheck_23922 73 = .ok (.return_, 1) := by decide +kernel
theorem dJ7_fill_eb02e_0 : decode cJ7_fill_eb02e 0 = .ok (.aload_n 0, 1) := by decide +kernel
theorem dJ7_fill_eb02e_1 : decode cJ7_fill_eb02e 1 = .ok (.arraylength, 1) := by decide +kernel
theorem dJ7_fill_eb02e_2 : decode cJ7_fill_eb02e 2 = .ok (.iload_n 1, 1) := by decide +kernel
theorem dJ7_fill_eb02e_3 : decode cJ7_fill_eb02e 3 = .ok (.iload_n 2, 1) := by decide +kernel
theorem dJ7_fill_eb02e_4 : decode cJ7_fill_eb02e 4 = .ok (.invokestatic 13, 3) := by decide +kernel
theorem dJ7_fill_eb02e_7 : decode cJ7_fill_eb02e 7 = .ok (.iload_n 1, 1) := by decide +kernel
theorem dJ7_fill_eb02e_8 : decode cJ7_fill_eb02e 8 = .ok (.istore 4, 2) := by decide +kernel
theorem dJ7_fill_eb02e_10 : decode cJ7_fill_eb02e 10 = .ok (.iload 4, 2) := by decide +kernel
theorem dJ7_fill_eb02e_12 : decode cJ7_fill_eb02e 12 = .ok (.iload_n 2, 1) := by decide +kernel
theorem dJ7_fill_eb02e_13 : decode cJ7_fill_eb02e 13 = .ok (.if_icmp .ge 14, 3) := by decide +kernel
theorem dJ7_fill_eb02e_16 : decode cJ7_fill_eb02e 16 = .ok (.aload_n 0, 1) := by decide +kernel
theorem dJ7_fill_eb02e_17 : decode cJ7_fill_eb02e 17 = .ok (.iload 4, 2) := by decide +kernel
theorem dJ7_fill_eb02e_19 : decode cJ7_fill_eb02e 19 = .ok (.iload_n 3, 1) := by decide +kernel
theorem dJ7_fill_eb02e_20 : decode cJ7_fill_eb02e 20 = .ok (.bastore, 1) := by decide +kernel
theorem dJ7_fill_eb02e_21 : decode cJ7_fill_eb02e 21 = .ok (.iinc 4 1, 3) := by decide +kernel
theorem dJ7_fill_eb02e_24 : decode cJ7_fill_eb02e 24 = .ok (.goto (-14), 3) := by decide +kernel
theorem dJ7_fill_eb02e_27 : decode cJ7_fill_eb02e 27 = .ok (.return_, 1) := by decide +kernel
theorem dJ7_copyOf_9075b_0 : decode cJ7_copyOf_9075b 0 = .ok (.iload_n 1, 1) := by decide +kernel
theorem dJ7_copyOf_9075b_1 : decode cJ7_copyOf_9075b 1 = .ok (.aload_n 0, 1) := by decide +kernel
theorem dJ7_copyOf_9075b_2 : decode cJ7_copyOf_9075b 2 = .ok (.arraylength, 1) := by decide +kernel
theorem dJ7_copyOf_9075b_3 : decode cJ7_copyOf_9075b 3 = .ok (.if_icmp .ne 11, 3) := by decide +kernel
theorem dJ7_copyOf_9075b_6 : decode cJ7_copyOf_9075b 6 = .ok (.aload_n 0, 1) := by decide +kernel
theorem dJ7_copyOf_9075b_7 : decode cJ7_copyOf_9075b 7 = .ok (.invokevirtual 310, 3) := by decide +kernel
theorem dJ7_copyOf_9075b_10 : decode cJ7_copyOf_9075b 10 = .ok (.checkcast 311, 3) := by decide +kernel
theorem dJ7_copyOf_9075b_13 : decode cJ7_copyOf_9075b 13 = .ok (.areturn, 1) := by decide +kernel
theorem dJ7_copyOf_9075b_14 : decode cJ7_copyOf_9075b 14 = .ok (.iload_n 1, 1) := by decide +kernel
theorem dJ7_copyOf_9075b_15 : decode cJ7_copyOf_9075b 15 = .ok (.newarray .byte, 2) := by decide +kernel
theorem dJ7_copyOf_9075b_17 : decode cJ7_copyOf_9075b 17 = .ok (.astore_n 2, 1) := by decide +kernel
theorem dJ7_copyOf_9075b_18 : decode cJ7_copyOf_9075b 18 = .ok (.aload_n 0, 1) := by decide +kernel
theorem dJ7_copyOf_9075b_19 : decode cJ7_copyOf_9075b 19 = .ok (.iconst 0, 1) := by decide +kernel
theorem dJ7_copyOf_9075b_20 : decode cJ7_copyOf_9075b 20 = .ok (.aload_n 2, 1) := by decide +kernel
theorem dJ7_copyOf_9075b_21 : decode cJ7_copyOf_9075b 21 = .ok (.iconst 0, 1) := by decide +kernel
theorem dJ7_copyOf_9075b_22 : decode cJ7_copyOf_9075b 22 = .ok (.aload_n 0, 1) := by decide +kernel
theorem dJ7_copyOf_9075b_23 : decode cJ7_copyOf_9075b 23 = .ok (.arraylength, 1) := by decide +kernel
theorem dJ7_copyOf_9075b_24 : decode cJ7_copyOf_9075b 24 = .ok (.iload_n 1, 1) := by decide +kernel
theorem dJ7_copyOf_9075b_25 : decode cJ7_copyOf_9075b 25 = .ok (.invokestatic 304, 3) := by decide +kernel
theorem dJ7_copyOf_9075b_28 : decode cJ7_copyOf_9075b 28 = .ok (.invokestatic 150, 3) := by decide +kernel
theorem dJ7_copyOf_9075b_31 : decode cJ7_copyOf_9075b 31 = .ok (.aload_n 2, 1) := by decide +kernel
theorem dJ7_copyOf_9075b_32 : decode cJ7_copyOf_9075b 32 = .ok (.areturn, 1) := by decide +kernel
theorem dJ7_checkLength_df160_0 : decode cJ7_checkLength_df160 0 = .ok (.iload_n 1, 1) := by decide +kernel
theorem dJ7_checkLength_df160_1 : decode cJ7_checkLength_df160 1 = .ok (.iload_n 0, 1) := by decide +kernel
theorem dJ7_checkLength_df160_2 : decode cJ7_checkLength_df160 2 = .ok (.if_icmp .ge 35, 3) := by decide +kernel
theorem dJ7_checkLength_df160_5 : decode cJ7_checkLength_df160 5 = .ok (.new 43, 3) := by decide +kernel
theorem dJ7_checkLength_df160_8 : decode cJ7_checkLength_df160 8 = .ok (.dup, 1) := by decide +kernel
theorem dJ7_checkLength_df160_9 : decode cJ7_checkLength_df160 9 = .ok (.new 45, 3) := by decide +kernel
theorem dJ7_checkLength_df160_12 : decode cJ7_checkLength_df160 12 = .ok (.dup, 1) := by decide +kernel
theorem dJ7_checkLength_df160_13 : decode cJ7_checkLength_df160 13 = .ok (.invokespecial 47, 3) := by decide +kernel
theorem dJ7_checkLength_df160_16 : decode cJ7_checkLength_df160 16 = .ok (.iload_n 0, 1) := by decide +kernel
theorem dJ7_checkLength_df160_17 : decode cJ7_checkLength_df160 17 = .ok (.invokevirtual 54, 3) := by decide +kernel
theorem dJ7_checkLength_df160_20 : decode cJ7_checkLength_df160 20 = .ok (.ldc_w 337, 3) := by decide +kernel
theorem dJ7_checkLength_df160_23 : decode cJ7_checkLength_df160 23 = .ok (.invokevirtual 50, 3) := by decide +kernel
theorem dJ7_checkLength_df160_26 : decode cJ7_checkLength_df160 26 = .ok (.iload_n 1, 1) := by decide +kernel
theorem dJ7_checkLength_df160_27 : decode cJ7_checkLength_df160 27 = .ok (.invokevirtual 54, 3) := by decide +kernel
theorem dJ7_checkLength_df160_30 : decode cJ7_checkLength_df160 30 = .ok (.invokevirtual 61, 3) := by decide +kernel
theorem dJ7_checkLength_df160_33 : decode cJ7_checkLength_df160 33 = .ok (.invokespecial 65, 3) := by decide +kernel
theorem dJ7_checkLength_df160_36 : decode cJ7_checkLength_df160 36 = .ok (.athrow, 1) := by decide +kernel
theorem dJ7_checkLength_df160_37 : decode cJ7_checkLength_df160 37 = .ok (.return_, 1) := by decide +kernel
theorem dJ7_copyOfRange_39247_0 : decode cJ7_copyOfRange_39247 0 = .ok (.iload_n 1, 1) := by decide +kernel
theorem dJ7_copyOfRange_39247_1 : decode cJ7_copyOfRange_39247 1 = .ok (.ifCond .ne 9, 3) := by decide +kernel
theorem dJ7_copyOfRange_39247_4 : decode cJ7_copyOfRange_39247 4 = .ok (.iload_n 2, 1) := by decide +kernel
theorem dJ7_copyOfRange_39247_5 : decode cJ7_copyOfRange_39247 5 = .ok (.aload_n 0, 1) := by decide +kernel
theorem dJ7_copyOfRange_39247_6 : decode cJ7_copyOfRange_39247 6 = .ok (.arraylength, 1) := by decide +kernel
theorem dJ7_copyOfRange_39247_7 : decode cJ7_copyOfRange_39247 7 = .ok (.if_icmp .eq 10, 3) := by decide +kernel
theorem dJ7_copyOfRange_39247_10 : decode cJ7_copyOfRange_39247 10 = .ok (.aload_n 0, 1) := by decide +kernel
theorem dJ7_copyOfRange_39247_11 : decode cJ7_copyOfRange_39247 11 = .ok (.iload_n 1, 1) := by decide +kernel
theorem dJ7_copyOfRange_39247_12 : decode cJ7_copyOfRange_39247 12 = .ok (.iload_n 2, 1) := by decide +kernel
theorem dJ7_copyOfRange_39247_13 : decode cJ7_copyOfRange_39247 13 = .ok (.invokestatic 339, 3) := by decide +kernel
theorem dJ7_copyOfRange_39247_16 : decode cJ7_copyOfRange_39247 16 = .ok (.areturn, 1) := by decide +kernel
theorem dJ7_copyOfRange_39247_17 : decode cJ7_copyOfRange_39247 17 = .ok (.aload_n 0, 1) := by decide +kernel
theorem dJ7_copyOfRange_39247_18 : decode cJ7_copyOfRange_39247 18 = .ok (.invokevirtual 310, 3) := by decide +kernel
theorem dJ7_copyOfRange_39247_21 : decode cJ7_copyOfRange_39247 21 = .ok (.checkcast 311, 3) := by decide +kernel
theorem dJ7_copyOfRange_39247_24 : decode cJ7_copyOfRange_39247 24 = .ok (.areturn, 1) := by decide +kernel
theorem dJ7_copyOfRangeByte_39247_0 : decode cJ7_copyOfRangeByte_39247 0 = .ok (.iload_n 1, 1) := by decide +kernel
theorem dJ7_copyOfRangeByte_39247_1 : decode cJ7_copyOfRangeByte_39247 1 = .ok (.iload_n 2, 1) := by decide +kernel
theorem dJ7_copyOfRangeByte_39247_2 : decode cJ7_copyOfRangeByte_39247 2 = .ok (.invokestatic 343, 3) := by decide +kernel
theorem dJ7_copyOfRangeByte_39247_5 : decode cJ7_copyOfRangeByte_39247 5 = .ok (.iload_n 2, 1) := by decide +kernel
theorem dJ7_copyOfRangeByte_39247_6 : decode cJ7_copyOfRangeByte_39247 6 = .ok (.iload_n 1, 1) := by decide +kernel
theorem dJ7_copyOfRangeByte_39247_7 : decode cJ7_copyOfRangeByte_39247 7 = .ok (.isub, 1) := by decide +kernel
theorem dJ7_copyOfRangeByte_39247_8 : decode cJ7_copyOfRangeByte_39247 8 = .ok (.istore_n 3, 1) := by decide +kernel
theorem dJ7_copyOfRangeByte_39247_9 : decode cJ7_copyOfRangeByte_39247 9 = .ok (.iload_n 3, 1) := by decide +kernel
theorem dJ7_copyOfRangeByte_39247_10 : decode cJ7_copyOfRangeByte_39247 10 = .ok (.newarray .byte, 2) := by decide +kernel
theorem dJ7_copyOfRangeByte_39247_12 : decode cJ7_copyOfRangeByte_39247 12 = .ok (.astore 4, 2) := by decide +kernel
theorem dJ7_copyOfRangeByte_39247_14 : decode cJ7_copyOfRangeByte_39247 14 = .ok (.aload_n 0, 1) := by decide +kernel
theorem dJ7_copyOfRangeByte_39247_15 : decode cJ7_copyOfRangeByte_39247 15 = .ok (.iload_n 1, 1) := by decide +kernel
theorem dJ7_copyOfRangeByte_39247_16 : decode cJ7_copyOfRangeByte_39247 16 = .ok (.aload 4, 2) := by decide +kernel
theorem dJ7_copyOfRangeByte_39247_18 : decode cJ7_copyOfRangeByte_39247 18 = .ok (.iconst 0, 1) := by decide +kernel
theorem dJ7_copyOfRangeByte_39247_19 : decode cJ7_copyOfRangeByte_39247 19 = .ok (.aload_n 0, 1) := by decide +kernel
theorem dJ7_copyOfRangeByte_39247_20 : decode cJ7_copyOfRangeByte_39247 20 = .ok (.arraylength, 1) := by decide +kernel
theorem dJ7_copyOfRangeByte_39247_21 : decode cJ7_copyOfRangeByte_39247 21 = .ok (.iload_n 1, 1) := by decide +kernel
theorem dJ7_copyOfRangeByte_39247_22 : decode cJ7_copyOfRangeByte_39247 22 = .ok (.isub, 1) := by decide +kernel
theorem dJ7_copyOfRangeByte_39247_23 : decode cJ7_copyOfRangeByte_39247 23 = .ok (.iload_n 3, 1) := by decide +kernel
theorem dJ7_copyOfRangeByte_39247_24 : decode cJ7_copyOfRangeByte_39247 24 = .ok (.invokestatic 304, 3) := by decide +kernel
theorem dJ7_copyOfRangeByte_39247_27 : decode cJ7_copyOfRangeByte_39247 27 = .ok (.invokestatic 150, 3) := by decide +kernel
theorem dJ7_copyOfRangeByte_39247_30 : decode cJ7_copyOfRangeByte_39247 30 = .ok (.aload 4, 2) := by decide +kernel
theorem dJ7_copyOfRangeByte_39247_32 : decode cJ7_copyOfRangeByte_39247 32 = .ok (.areturn, 1) := by decide +kernel
theorem dJ8_newLength_cabcc_0 : decode cJ8_newLength_cabcc 0 = .ok (.iload_n 0, 1) := by decide +kernel
theorem dJ8_newLength_cabcc_1 : decode cJ8_newLength_cabcc 1 = .ok (.iload_n 1, 1) := by decide +kernel
theorem dJ8_newLength_cabcc_2 : decode cJ8_newLength_cabcc 2 = .ok (.iload_n 2, 1) := by decide +kernel
theorem dJ8_newLength_cabcc_3 : decode cJ8_newLength_cabcc 3 = .ok (.invokestatic 194, 3) := by decide +kernel
theorem dJ8_newLength_cabcc_6 : decode cJ8_newLength_cabcc 6 = .ok (.iadd, 1) := by decide +kernel
theorem dJ8_newLength_cabcc_7 : decode cJ8_newLength_cabcc 7 = .ok (.istore_n 3, 1) := by decide +kernel
theorem dJ8_newLength_cabcc_8 : decode cJ8_newLength_cabcc 8 = .ok (.iconst 0, 1) := by decide +kernel
theorem dJ8_newLength_cabcc_9 : decode cJ8_newLength_cabcc 9 = .ok (.iload_n 3, 1) := by decide +kernel
theorem dJ8_newLength_cabcc_10 : decode cJ8_newLength_cabcc 10 = .ok (.if_icmp .ge 11, 3) := by decide +kernel
theorem dJ8_newLength_cabcc_13 : decode cJ8_newLength_cabcc 13 = .ok (.iload_n 3, 1) := by decide +kernel
theorem dJ8_newLength_cabcc_14 : decode cJ8_newLength_cabcc 14 = .ok (.ldc 200, 2) := by decide +kernel
theorem dJ8_newLength_cabcc_16 : decode cJ8_newLength_cabcc 16 = .ok (.if_icmp .gt 5, 3) := by decide +kernel
theorem dJ8_newLength_cabcc_19 : decode cJ8_newLength_cabcc 19 = .ok (.iload_n 3, 1) := by decide +kernel
theorem dJ8_newLength_cabcc_20 : decode cJ8_newLength_cabcc 20 = .ok (.ireturn, 1) := by decide +kernel
theorem dJ8_newLength_cabcc_21 : decode cJ8_newLength_cabcc 21 = .ok (.iload_n 0, 1) := by decide +kernel
theorem dJ8_newLength_cabcc_22 : decode cJ8_newLength_cabcc 22 = .ok (.iload_n 1, 1) := by decide +kernel
theorem dJ8_newLength_cabcc_23 : decode cJ8_newLength_cabcc 23 = .ok (.invokestatic 201, 3) := by decide +kernel
theorem dJ8_newLength_cabcc_26 : decode cJ8_newLength_cabcc 26 = .ok (.ireturn, 1) := by decide +kernel
theorem dJ8_hugeLength_7cf53_0 : decode cJ8_hugeLength_7cf53 0 = .ok (.iload_n 0, 1) := by decide +kernel
theorem dJ8_hugeLength_7cf53_1 : decode cJ8_hugeLength_7cf53 1 = .ok (.iload_n 1, 1) := by decide +kernel
theorem dJ8_hugeLength_7cf53_2 : decode cJ8_hugeLength_7cf53 2 = .ok (.iadd, 1) := by decide +kernel
theorem dJ8_hugeLength_7cf53_3 : decode cJ8_hugeLength_7cf53 3 = .ok (.istore_n 2, 1) := by decide +kernel
theorem dJ8_hugeLength_7cf53_4 : decode cJ8_hugeLength_7cf53 4 = .ok (.iload_n 2, 1) := by decide +kernel
theorem dJ8_hugeLength_7cf53_5 : decode cJ8_hugeLength_7cf53 5 = .ok (.ifCond .ge 44, 3) := by decide +kernel
theorem dJ8_hugeLength_7cf53_8 : decode cJ8_hugeLength_7cf53 8 = .ok (.new 204, 3) := by decide +kernel
theorem dJ8_hugeLength_7cf53_11 : decode cJ8_hugeLength_7cf53 11 = .ok (.dup, 1) := by decide +kernel
theorem dJ8_hugeLength_7cf53_12 : decode cJ8_hugeLength_7cf53 12 = .ok (.new 89, 3) := by decide +kernel
theorem dJ8_hugeLength_7cf53_15 : decode cJ8_hugeLength_7cf53 15 = .ok (.dup, 1) := by decide +kernel
theorem dJ8_hugeLength_7cf53_16 : decode cJ8_hugeLength_7cf53 16 = .ok (.invokespecial 91, 3) := by decide +kernel
theorem dJ8_hugeLength_7cf53_19 : decode cJ8_hugeLength_7cf53 19 = .ok (.ldc 206, 2) := by decide +kernel
theorem dJ8_hugeLength_7cf53_21 : decode cJ8_hugeLength_7cf53 21 = .ok (.invokevirtual 94, 3) := by decide +kernel
theorem dJ8_hugeLength_7cf53_24 : decode cJ8_hugeLength_7cf53 24 = .ok (.iload_n 0, 1) := by decide +kernel
theorem dJ8_hugeLength_7cf53_25 : decode cJ8_hugeLength_7cf53 25 = .ok (.invokevirtual 98, 3) := by decide +kernel
theorem dJ8_hugeLength_7cf53_28 : decode cJ8_hugeLength_7cf53 28 = .ok (.ldc 208, 2) := by decide +kernel
theorem dJ8_hugeLength_7cf53_30 : decode cJ8_hugeLength_7cf53 30 = .ok (.invokevirtual 94, 3) := by decide +kernel
theorem dJ8_hugeLength_7cf53_33 : decode cJ8_hugeLength_7cf53 33 = .ok (.iload_n 1, 1) := by decide +kernel
theorem dJ8_hugeLength_7cf53_34 : decode cJ8_hugeLength_7cf53 34 = .ok (.invokevirtual 98, 3) := by decide +kernel
theorem dJ8_hugeLength_7cf53_37 : decode cJ8_hugeLength_7cf53 37 = .ok (.ldc 210, 2) := by decide +kernel
theorem dJ8_hugeLength_7cf53_39 : decode cJ8_hugeLength_7cf53 39 = .ok (.invokevirtual 94, 3) := by decide +kernel
theorem dJ8_hugeLength_7cf53_42 : decode cJ8_hugeLength_7cf53 42 = .ok (.invokevirtual 101, 3) := by decide +kernel
theorem dJ8_hugeLength_7cf53_45 : decode cJ8_hugeLength_7cf53 45 = .ok (.invokespecial 212, 3) := by decide +kernel
theorem dJ8_hugeLength_7cf53_48 : decode cJ8_hugeLength_7cf53 48 = .ok (.athrow, 1) := by decide +kernel
theorem dJ8_hugeLength_7cf53_49 : decode cJ8_hugeLength_7cf53 49 = .ok (.iload_n 2, 1) := by decide +kernel
theorem dJ8_hugeLength_7cf53_50 : decode cJ8_hugeLength_7cf53 50 = .ok (.ldc 200, 2) := by decide +kernel
theorem dJ8_hugeLength_7cf53_52 : decode cJ8_hugeLength_7cf53 52 = .ok (.if_icmp .gt 6, 3) := by decide +kernel
theorem dJ8_hugeLength_7cf53_55 : decode cJ8_hugeLength_7cf53 55 = .ok (.ldc 200, 2) := by decide +kernel
theorem dJ8_hugeLength_7cf53_57 : decode cJ8_hugeLength_7cf53 57 = .ok (.ireturn, 1) := by decide +kernel
theorem dJ8_hugeLength_7cf53_58 : decode cJ8_hugeLength_7cf53 58 = .ok (.iload_n 2, 1) := by decide +kernel
theorem dJ8_hugeLength_7cf53_59 : decode cJ8_hugeLength_7cf53 59 = .ok (.ireturn, 1) := by decide +kernel
theorem dJ3_checkIndex_8e157_0 : decode cJ3_checkIndex_8e157 0 = .ok (.iload_n 0, 1) := by decide +kernel
theorem dJ3_checkIndex_8e157_1 : decode cJ3_checkIndex_8e157 1 = .ok (.ifCond .lt 8, 3) := by decide +kernel
theorem dJ3_checkIndex_8e157_4 : decode cJ3_checkIndex_8e157 4 = .ok (.iload_n 0, 1) := by decide +kernel
theorem dJ3_checkIndex_8e157_5 : decode cJ3_checkIndex_8e157 5 = .ok (.iload_n 1, 1) := by decide +kernel
theorem dJ3_checkIndex_8e157_6 : decode cJ3_checkIndex_8e157 6 = .ok (.if_icmp .lt 10, 3) := by decide +kernel
theorem dJ3_checkIndex_8e157_9 : decode cJ3_checkIndex_8e157 9 = .ok (.aload_n 2, 1) := by decide +kernel
theorem dJ3_checkIndex_8e157_10 : decode cJ3_checkIndex_8e157 10 = .ok (.iload_n 0, 1) := by decide +kernel
theorem dJ3_checkIndex_8e157_11 : decode cJ3_checkIndex_8e157 11 = .ok (.iload_n 1, 1) := by decide +kernel
theorem dJ3_checkIndex_8e157_12 : decode cJ3_checkIndex_8e157 12 = .ok (.invokestatic 95, 3) := by decide +kernel
theorem dJ3_checkIndex_8e157_15 : decode cJ3_checkIndex_8e157 15 = .ok (.athrow, 1) := by decide +kernel
theorem dJ3_checkIndex_8e157_16 : decode cJ3_checkIndex_8e157 16 = .ok (.iload_n 0, 1) := by decide +kernel
theorem dJ3_checkIndex_8e157_17 : decode cJ3_checkIndex_8e157 17 = .ok (.ireturn, 1) := by decide +kernel
theorem dJ3_checkFromToIndex_8c36e_0 : decode cJ3_checkFromToIndex_8c36e 0 = .ok (.iload_n 0, 1) := by decide +kernel
theorem dJ3_checkFromToIndex_8c36e_1 : decode cJ3_checkFromToIndex_8c36e 1 = .ok (.ifCond .lt 13, 3) := by decide +kernel
theorem dJ3_checkFromToIndex_8c36e_4 : decode cJ3_checkFromToIndex_8c36e 4 = .ok (.iload_n 0, 1) := by decide +kernel
theorem dJ3_checkFromToIndex_8c36e_5 : decode cJ3_checkFromToIndex_8c36e 5 = .ok (.iload_n 1, 1) := by decide +kernel
theorem dJ3_checkFromToIndex_8c36e_6 : decode cJ3_checkFromToIndex_8c36e 6 = .ok (.if_icmp .gt 8, 3) := by decide +kernel
theorem dJ3_checkFromToIndex_8c36e_9 : decode cJ3_checkFromToIndex_8c36e 9 = .ok (.iload_n 1, 1) := by decide +kernel
theorem dJ3_checkFromToIndex_8c36e_10 : decode cJ3_checkFromToIndex_8c36e 10 = .ok (.iload_n 2, 1) := by decide +kernel
theorem dJ3_checkFromToIndex_8c36e_11 : decode cJ3_checkFromToIndex_8c36e 11 = .ok (.if_icmp .le 11, 3) := by decide +kernel
theorem dJ3_checkFromToIndex_8c36e_14 : decode cJ3_checkFromToIndex_8c36e 14 = .ok (.aload_n 3, 1) := by decide +kernel
theorem dJ3_checkFromToIndex_8c36e_15 : decode cJ3_checkFromToIndex_8c36e 15 = .ok (.iload_n 0, 1) := by decide +kernel
theorem dJ3_checkFromToIndex_8c36e_16 : decode cJ3_checkFromToIndex_8c36e 16 = .ok (.iload_n 1, 1) := by decide +kernel
theorem dJ3_checkFromToIndex_8c36e_17 : decode cJ3_checkFromToIndex_8c36e 17 = .ok (.iload_n 2, 1) := by decide +kernel
theorem dJ3_checkFromToIndex_8c36e_18 : decode cJ3_checkFromToIndex_8c36e 18 = .ok (.invokestatic 99, 3) := by decide +kernel
theorem dJ3_checkFromToIndex_8c36e_21 : decode cJ3_checkFromToIndex_8c36e 21 = .ok (.athrow, 1) := by decide +kernel
theorem dJ3_checkFromToIndex_8c36e_22 : decode cJ3_checkFromToIndex_8c36e 22 = .ok (.iload_n 0, 1) := by decide +kernel
theorem dJ3_checkFromToIndex_8c36e_23 : decode cJ3_checkFromToIndex_8c36e 23 = .ok (.ireturn, 1) := by decide +kernel
theorem dJ3_checkFromIndexSize_8c36e_0 : decode cJ3_checkFromIndexSize_8c36e 0 = .ok (.iload_n 2, 1) := by decide +kernel
theorem dJ3_checkFromIndexSize_8c36e_1 : decode cJ3_checkFromIndexSize_8c36e 1 = .ok (.iload_n 0, 1) := by decide +kernel
theorem dJ3_checkFromIndexSize_8c36e_2 : decode cJ3_checkFromIndexSize_8c36e 2 = .ok (.ior, 1) := by decide +kernel
theorem dJ3_checkFromIndexSize_8c36e_3 : decode cJ3_checkFromIndexSize_8c36e 3 = .ok (.iload_n 1, 1) := by decide +kernel
theorem dJ3_checkFromIndexSize_8c36e_4 : decode cJ3_checkFromIndexSize_8c36e 4 = .ok (.ior, 1) := by decide +kernel
theorem dJ3_checkFromIndexSize_8c36e_5 : decode cJ3_checkFromIndexSize_8c36e 5 = .ok (.ifCond .lt 10, 3) := by decide +kernel
theorem dJ3_checkFromIndexSize_8c36e_8 : decode cJ3_checkFromIndexSize_8c36e 8 = .ok (.iload_n 1, 1) := by decide +kernel
theorem dJ3_checkFromIndexSize_8c36e_9 : decode cJ3_checkFromIndexSize_8c36e 9 = .ok (.iload_n 2, 1) := by decide +kernel
theorem dJ3_checkFromIndexSize_8c36e_10 : decode cJ3_checkFromIndexSize_8c36e 10 = .ok (.iload_n 0, 1) := by decide +kernel
theorem dJ3_checkFromIndexSize_8c36e_11 : decode cJ3_checkFromIndexSize_8c36e 11 = .ok (.isub, 1) := by decide +kernel
theorem dJ3_checkFromIndexSize_8c36e_12 : decode cJ3_checkFromIndexSize_8c36e 12 = .ok (.if_icmp .le 11, 3) := by decide +kernel
theorem dJ3_checkFromIndexSize_8c36e_15 : decode cJ3_checkFromIndexSize_8c36e 15 = .ok (.aload_n 3, 1) := by decide +kernel
theorem dJ3_checkFromIndexSize_8c36e_16 : decode cJ3_checkFromIndexSize_8c36e 16 = .ok (.iload_n 0, 1) := by decide +kernel
theorem dJ3_checkFromIndexSize_8c36e_17 : decode cJ3_checkFromIndexSize_8c36e 17 = .ok (.iload_n 1, 1) := by decide +kernel
theorem dJ3_checkFromIndexSize_8c36e_18 : decode cJ3_checkFromIndexSize_8c36e 18 = .ok (.iload_n 2, 1) := by decide +kernel
theorem dJ3_checkFromIndexSize_8c36e_19 : decode cJ3_checkFromIndexSize_8c36e 19 = .ok (.invokestatic 103, 3) := by decide +kernel
theorem dJ3_checkFromIndexSize_8c36e_22 : decode cJ3_checkFromIndexSize_8c36e 22 = .ok (.athrow, 1) := by decide +kernel
theorem dJ3_checkFromIndexSize_8c36e_23 : decode cJ3_checkFromIndexSize_8c36e 23 = .ok (.iload_n 0, 1) := by decide +kernel
theorem dJ3_checkFromIndexSize_8c36e_24 : decode cJ3_checkFromIndexSize_8c36e 24 = .ok (.ireturn, 1) := by decide +kernel
theorem dL_catNameByte_0 : decode cL_catNameByte 0 = .ok (.aload_n 3, 1) := by decide +kernel
theorem dL_catNameByte_1 : decode cL_catNameByte 1 = .ok (.iconst 0, 1) := by decide +kernel
theorem dL_catNameByte_2 : decode cL_catNameByte 2 = .ok (.aload_n 0, 1) := by decide +kernel
theorem dL_catNameByte_3 : decode cL_catNameByte 3 = .ok (.iload_n 1, 1) := by decide +kernel
theorem dL_catNameByte_4 : decode cL_catNameByte 4 = .ok (.iload_n 2, 1) := by decide +kernel
theorem dL_catNameByte_5 : decode cL_catNameByte 5 = .ok (.invokevirtual 7, 3) := by decide +kernel
theorem dL_catNameByte_8 : decode cL_catNameByte 8 = .ok (.i2l, 1) := by decide +kernel
theorem dL_catNameByte_9 : decode cL_catNameByte 9 = .ok (.lastore, 1) := by decide +kernel
theorem dL_catNameByte_10 : decode cL_catNameByte 10 = .ok (.goto 7, 3) := by decide +kernel
theorem dL_catNameByte_13 : decode cL_catNameByte 13 = .ok (.astore 4, 2) := by decide +kernel
theorem dL_catNameByte_15 : decode cL_catNameByte 15 = .ok (.iconst 1, 1) := by decide +kernel
theorem dL_catNameByte_16 : decode cL_catNameByte 16 = .ok (.ireturn, 1) := by decide +kernel
theorem dL_catNameByte_17 : decode cL_catNameByte 17 = .ok (.iconst 0, 1) := by decide +kernel
theorem dL_catNameByte_18 : decode cL_catNameByte 18 = .ok (.ireturn, 1) := by decide +kernel
theorem dL_sackNameByte_0 : decode cL_sackNameByte 0 = .ok (.aload_n 3, 1) := by decide +kernel
theorem dL_sackNameByte_1 : decode cL_sackNameByte 1 = .ok (.iconst 0, 1) := by decide +kernel
theorem dL_sackNameByte_2 : decode cL_sackNameByte 2 = .ok (.aload_n 0, 1) := by decide +kernel
theorem dL_sackNameByte_3 : decode cL_sackNameByte 3 = .ok (.iload_n 1, 1) := by decide +kernel
theorem dL_sackNameByte_4 : decode cL_sackNameByte 4 = .ok (.iload_n 2, 1) := by decide +kernel
theorem dL_sackNameByte_5 : decode cL_sackNameByte 5 = .ok (.invokevirtual 15, 3) := by decide +kernel
theorem dL_sackNameByte_8 : decode cL_sackNameByte 8 = .ok (.i2l, 1) := by decide +kernel
theorem dL_sackNameByte_9 : decode cL_sackNameByte 9 = .ok (.lastore, 1) := by decide +kernel
theorem dL_sackNameByte_10 : decode cL_sackNameByte 10 = .ok (.goto 7, 3) := by decide +kernel
theorem dL_sackNameByte_13 : decode cL_sackNameByte 13 = .ok (.astore 4, 2) := by decide +kernel
theorem dL_sackNameByte_15 : decode cL_sackNameByte 15 = .ok (.iconst 1, 1) := by decide +kernel
theorem dL_sackNameByte_16 : decode cL_sackNameByte 16 = .ok (.ireturn, 1) := by decide +kernel
theorem dL_sackNameByte_17 : decode cL_sackNameByte 17 = .ok (.iconst 0, 1) := by decide +kernel
theorem dL_sackNameByte_18 : decode cL_sackNameByte 18 = .ok (.ireturn, 1) := by decide +kernel
theorem dL_speedOf_0 : decode cL_speedOf 0 = .ok (.aload_n 2, 1) := by decide +kernel
theorem dL_speedOf_1 : decode cL_speedOf 1 = .ok (.iconst 0, 1) := by decide +kernel
theorem dL_speedOf_2 : decode cL_speedOf 2 = .ok (.aload_n 0, 1) := by decide +kernel
theorem dL_speedOf_3 : decode cL_speedOf 3 = .ok (.iload_n 1, 1) := by decide +kernel
theorem dL_speedOf_4 : decode cL_speedOf 4 = .ok (.invokevirtual 18, 3) := by decide +kernel
theorem dL_speedOf_7 : decode cL_speedOf 7 = .ok (.i2l, 1) := by decide +kernel
theorem dL_speedOf_8 : decode cL_speedOf 8 = .ok (.lastore, 1) := by decide +kernel
theorem dL_speedOf_9 : decode cL_speedOf 9 = .ok (.goto 6, 3) := by decide +kernel
theorem dL_speedOf_12 : decode cL_speedOf 12 = .ok (.astore_n 3, 1) := by decide +kernel
theorem dL_speedOf_13 : decode cL_speedOf 13 = .ok (.iconst 1, 1) := by decide +kernel
theorem dL_speedOf_14 : decode cL_speedOf 14 = .ok (.ireturn, 1) := by decide +kernel
theorem dL_speedOf_15 : decode cL_speedOf 15 = .ok (.iconst 0, 1) := by decide +kernel
theorem dL_speedOf_16 : decode cL_speedOf 16 = .ok (.ireturn, 1) := by decide +kernel
theorem dL_isLeftPawed_0 : decode cL_isLeftPawed 0 = .ok (.aload_n 2, 1) := by decide +kernel
theorem dL_isLeftPawed_1 : decode cL_isLeftPawed 1 = .ok (.iconst 0, 1) := by decide +kernel
theorem dL_isLeftPawed_2 : decode cL_isLeftPawed 2 = .ok (.aload_n 0, 1) := by decide +kernel
theorem dL_isLeftPawed_3 : decode cL_isLeftPawed 3 = .ok (.iload_n 1, 1) := by decide +kernel
theorem dL_isLeftPawed_4 : decode cL_isLeftPawed 4 = .ok (.invokevirtual 22, 3) := by decide +kernel
theorem dL_isLeftPawed_7 : decode cL_isLeftPawed 7 = .ok (.ifCond .eq 7, 3) := by decide +kernel
theorem dL_isLeftPawed_10 : decode cL_isLeftPawed 10 = .ok (.lconst 1, 1) := by decide +kernel
theorem dL_isLeftPawed_11 : decode cL_isLeftPawed 11 = .ok (.goto 4, 3) := by decide +kernel
theorem dL_isLeftPawed_14 : decode cL_isLeftPawed 14 = .ok (.lconst 0, 1) := by decide +kernel
theorem dL_isLeftPawed_15 : decode cL_isLeftPawed 15 = .ok (.lastore, 1) := by decide +kernel
theorem dL_isLeftPawed_16 : decode cL_isLeftPawed 16 = .ok (.goto 6, 3) := by decide +kernel
theorem dL_isLeftPawed_19 : decode cL_isLeftPawed 19 = .ok (.astore_n 3, 1) := by decide +kernel
theorem dL_isLeftPawed_20 : decode cL_isLeftPawed 20 = .ok (.iconst 1, 1) := by decide +kernel
theorem dL_isLeftPawed_21 : decode cL_isLeftPawed 21 = .ok (.ireturn, 1) := by decide +kernel
theorem dL_isLeftPawed_22 : decode cL_isLeftPawed 22 = .ok (.iconst 0, 1) := by decide +kernel
theorem dL_isLeftPawed_23 : decode cL_isLeftPawed 23 = .ok (.ireturn, 1) := by decide +kernel
theorem dL_tirednessOf_0 : decode cL_tirednessOf 0 = .ok (.aload_n 2, 1) := by decide +kernel
theorem dL_tirednessOf_1 : decode cL_tirednessOf 1 = .ok (.iconst 0, 1) := by decide +kernel
theorem dL_tirednessOf_2 : decode cL_tirednessOf 2 = .ok (.aload_n 0, 1) := by decide +kernel
theorem dL_tirednessOf_3 : decode cL_tirednessOf 3 = .ok (.iload_n 1, 1) := by decide +kernel
theorem dL_tirednessOf_4 : decode cL_tirednessOf 4 = .ok (.invokevirtual 26, 3) := by decide +kernel
theorem dL_tirednessOf_7 : decode cL_tirednessOf 7 = .ok (.i2l, 1) := by decide +kernel
theorem dL_tirednessOf_8 : decode cL_tirednessOf 8 = .ok (.lastore, 1) := by decide +kernel
theorem dL_tirednessOf_9 : decode cL_tirednessOf 9 = .ok (.goto 6, 3) := by decide +kernel
theorem dL_tirednessOf_12 : decode cL_tirednessOf 12 = .ok (.astore_n 3, 1) := by decide +kernel
theorem dL_tirednessOf_13 : decode cL_tirednessOf 13 = .ok (.iconst 1, 1) := by decide +kernel
theorem dL_tirednessOf_14 : decode cL_tirednessOf 14 = .ok (.ireturn, 1) := by decide +kernel
theorem dL_tirednessOf_15 : decode cL_tirednessOf 15 = .ok (.iconst 0, 1) := by decide +kernel
theorem dL_tirednessOf_16 : decode cL_tirednessOf 16 = .ok (.ireturn, 1) := by decide +kernel
theorem dL_strengthOf_0 : decode cL_strengthOf 0 = .ok (.aload_n 2, 1) := by decide +kernel
theorem dL_strengthOf_1 : decode cL_strengthOf 1 = .ok (.iconst 0, 1) := by decide +kernel
theorem dL_strengthOf_2 : decode cL_strengthOf 2 = .ok (.aload_n 0, 1) := by decide +kernel
theorem dL_strengthOf_3 : decode cL_strengthOf 3 = .ok (.iload_n 1, 1) := by decide +kernel
theorem dL_strengthOf_4 : decode cL_strengthOf 4 = .ok (.invokevirtual 29, 3) := by decide +kernel
theorem dL_strengthOf_7 : decode cL_strengthOf 7 = .ok (.i2l, 1) := by decide +kernel
theorem dL_strengthOf_8 : decode cL_strengthOf 8 = .ok (.lastore, 1) := by decide +kernel
theorem dL_strengthOf_9 : decode cL_strengthOf 9 = .ok (.goto 6, 3) := by decide +kernel
theorem dL_strengthOf_12 : decode cL_strengthOf 12 = .ok (.astore_n 3, 1) := by decide +kernel
theorem dL_strengthOf_13 : decode cL_strengthOf 13 = .ok (.iconst 1, 1) := by decide +kernel
theorem dL_strengthOf_14 : decode cL_strengthOf 14 = .ok (.ireturn, 1) := by decide +kernel
theorem dL_strengthOf_15 : decode cL_strengthOf 15 = .ok (.iconst 0, 1) := by decide +kernel
theorem dL_strengthOf_16 : decode cL_strengthOf 16 = .ok (.ireturn, 1) := by decide +kernel
theorem dL_caughtBy_0 : decode cL_caughtBy 0 = .ok (.aload_n 2, 1) := by decide +kernel
theorem dL_caughtBy_1 : decode cL_caughtBy 1 = .ok (.iconst 0, 1) := by decide +kernel
theorem dL_caughtBy_2 : decode cL_caughtBy 2 = .ok (.aload_n 0, 1) := by decide +kernel
theorem dL_caughtBy_3 : decode cL_caughtBy 3 = .ok (.iload_n 1, 1) := by decide +kernel
theorem dL_caughtBy_4 : decode cL_caughtBy 4 = .ok (.invokevirtual 32, 3) := by decide +kernel
theorem dL_caughtBy_7 : decode cL_caughtBy 7 = .ok (.i2l, 1) := by decide +kernel
theorem dL_caughtBy_8 : decode cL_caughtBy 8 = .ok (.lastore, 1) := by decide +kernel
theorem dL_caughtBy_9 : decode cL_caughtBy 9 = .ok (.goto 6, 3) := by decide +kernel
theorem dL_caughtBy_12 : decode cL_caughtBy 12 = .ok (.astore_n 3, 1) := by decide +kernel
theorem dL_caughtBy_13 : decode cL_caughtBy 13 = .ok (.iconst 1, 1) := by decide +kernel
theorem dL_caughtBy_14 : decode cL_caughtBy 14 = .ok (.ireturn, 1) := by decide +kernel
theorem dL_caughtBy_15 : decode cL_caughtBy 15 = .ok (.iconst 0, 1) := by decide +kernel
theorem dL_caughtBy_16 : decode cL_caughtBy 16 = .ok (.ireturn, 1) := by decide +kernel
theorem dL_oathsOf_0 : decode cL_oathsOf 0 = .ok (.aload_n 2, 1) := by decide +kernel
theorem dL_oathsOf_1 : decode cL_oathsOf 1 = .ok (.iconst 0, 1) := by decide +kernel
theorem dL_oathsOf_2 : decode cL_oathsOf 2 = .ok (.aload_n 0, 1) := by decide +kernel
theorem dL_oathsOf_3 : decode cL_oathsOf 3 = .ok (.iload_n 1, 1) := by decide +kernel
theorem dL_oathsOf_4 : decode cL_oathsOf 4 = .ok (.invokevirtual 35, 3) := by decide +kernel
theorem dL_oathsOf_7 : decode cL_oathsOf 7 = .ok (.i2l, 1) := by decide +kernel
theorem dL_oathsOf_8 : decode cL_oathsOf 8 = .ok (.lastore, 1) := by decide +kernel
theorem dL_oathsOf_9 : decode cL_oathsOf 9 = .ok (.goto 6, 3) := by decide +kernel
theorem dL_oathsOf_12 : decode cL_oathsOf 12 = .ok (.astore_n 3, 1) := by decide +kernel
theorem dL_oathsOf_13 : decode cL_oathsOf 13 = .ok (.iconst 1, 1) := by decide +kernel
theorem dL_oathsOf_14 : decode cL_oathsOf 14 = .ok (.ireturn, 1) := by decide +kernel
theorem dL_oathsOf_15 : decode cL_oathsOf 15 = .ok (.iconst 0, 1) := by decide +kernel
theorem dL_oathsOf_16 : decode cL_oathsOf 16 = .ok (.ireturn, 1) := by decide +kernel
theorem dL_grainIn_0 : decode cL_grainIn 0 = .ok (.aload_n 2, 1) := by decide +kernel
theorem dL_grainIn_1 : decode cL_grainIn 1 = .ok (.iconst 0, 1) := by decide +kernel
theorem dL_grainIn_2 : decode cL_grainIn 2 = .ok (.aload_n 0, 1) := by decide +kernel
theorem dL_grainIn_3 : decode cL_grainIn 3 = .ok (.iload_n 1, 1) := by decide +kernel
theorem dL_grainIn_4 : decode cL_grainIn 4 = .ok (.invokevirtual 38, 3) := by decide +kernel
theorem dL_grainIn_7 : decode cL_grainIn 7 = .ok (.i2l, 1) := by decide +kernel
theorem dL_grainIn_8 : decode cL_grainIn 8 = .ok (.lastore, 1) := by decide +kernel
theorem dL_grainIn_9 : decode cL_grainIn 9 = .ok (.goto 6, 3) := by decide +kernel
theorem dL_grainIn_12 : decode cL_grainIn 12 = .ok (.astore_n 3, 1) := by decide +kernel
theorem dL_grainIn_13 : decode cL_grainIn 13 = .ok (.iconst 1, 1) := by decide +kernel
theorem dL_grainIn_14 : decode cL_grainIn 14 = .ok (.ireturn, 1) := by decide +kernel
theorem dL_grainIn_15 : decode cL_grainIn 15 = .ok (.iconst 0, 1) := by decide +kernel
theorem dL_grainIn_16 : decode cL_grainIn 16 = .ok (.ireturn, 1) := by decide +kernel
theorem dL_miceIn_0 : decode cL_miceIn 0 = .ok (.aload_n 2, 1) := by decide +kernel
theorem dL_miceIn_1 : decode cL_miceIn 1 = .ok (.iconst 0, 1) := by decide +kernel
theorem dL_miceIn_2 : decode cL_miceIn 2 = .ok (.aload_n 0, 1) := by decide +kernel
theorem dL_miceIn_3 : decode cL_miceIn 3 = .ok (.iload_n 1, 1) := by decide +kernel
theorem dL_miceIn_4 : decode cL_miceIn 4 = .ok (.invokevirtual 41, 3) := by decide +kernel
theorem dL_miceIn_7 : decode cL_miceIn 7 = .ok (.i2l, 1) := by decide +kernel
theorem dL_miceIn_8 : decode cL_miceIn 8 = .ok (.lastore, 1) := by decide +kernel
theorem dL_miceIn_9 : decode cL_miceIn 9 = .ok (.goto 6, 3) := by decide +kernel
theorem dL_miceIn_12 : decode cL_miceIn 12 = .ok (.astore_n 3, 1) := by decide +kernel
theorem dL_miceIn_13 : decode cL_miceIn 13 = .ok (.iconst 1, 1) := by decide +kernel
theorem dL_miceIn_14 : decode cL_miceIn 14 = .ok (.ireturn, 1) := by decide +kernel
theorem dL_miceIn_15 : decode cL_miceIn 15 = .ok (.iconst 0, 1) := by decide +kernel
theorem dL_miceIn_16 : decode cL_miceIn 16 = .ok (.ireturn, 1) := by decide +kernel
theorem dL_isOpen_0 : decode cL_isOpen 0 = .ok (.aload_n 2, 1) := by decide +kernel
theorem dL_isOpen_1 : decode cL_isOpen 1 = .ok (.iconst 0, 1) := by decide +kernel
theorem dL_isOpen_2 : decode cL_isOpen 2 = .ok (.aload_n 0, 1) := by decide +kernel
theorem dL_isOpen_3 : decode cL_isOpen 3 = .ok (.iload_n 1, 1) := by decide +kernel
theorem dL_isOpen_4 : decode cL_isOpen 4 = .ok (.invokevirtual 44, 3) := by decide +kernel
theorem dL_isOpen_7 : decode cL_isOpen 7 = .ok (.ifCond .eq 7, 3) := by decide +kernel
theorem dL_isOpen_10 : decode cL_isOpen 10 = .ok (.lconst 1, 1) := by decide +kernel
theorem dL_isOpen_11 : decode cL_isOpen 11 = .ok (.goto 4, 3) := by decide +kernel
theorem dL_isOpen_14 : decode cL_isOpen 14 = .ok (.lconst 0, 1) := by decide +kernel
theorem dL_isOpen_15 : decode cL_isOpen 15 = .ok (.lastore, 1) := by decide +kernel
theorem dL_isOpen_16 : decode cL_isOpen 16 = .ok (.goto 6, 3) := by decide +kernel
theorem dL_isOpen_19 : decode cL_isOpen 19 = .ok (.astore_n 3, 1) := by decide +kernel
theorem dL_isOpen_20 : decode cL_isOpen 20 = .ok (.iconst 1, 1) := by decide +kernel
theorem dL_isOpen_21 : decode cL_isOpen 21 = .ok (.ireturn, 1) := by decide +kernel
theorem dL_isOpen_22 : decode cL_isOpen 22 = .ok (.iconst 0, 1) := by decide +kernel
theorem dL_isOpen_23 : decode cL_isOpen 23 = .ok (.ireturn, 1) := by decide +kernel
theorem dL_eatenFrom_0 : decode cL_eatenFrom 0 = .ok (.aload_n 2, 1) := by decide +kernel
theorem dL_eatenFrom_1 : decode cL_eatenFrom 1 = .ok (.iconst 0, 1) := by decide +kernel
theorem dL_eatenFrom_2 : decode cL_eatenFrom 2 = .ok (.aload_n 0, 1) := by decide +kernel
theorem dL_eatenFrom_3 : decode cL_eatenFrom 3 = .ok (.iload_n 1, 1) := by decide +kernel
theorem dL_eatenFrom_4 : decode cL_eatenFrom 4 = .ok (.invokevirtual 47, 3) := by decide +kernel
theorem dL_eatenFrom_7 : decode cL_eatenFrom 7 = .ok (.i2l, 1) := by decide +kernel
theorem dL_eatenFrom_8 : decode cL_eatenFrom 8 = .ok (.lastore, 1) := by decide +kernel
theorem dL_eatenFrom_9 : decode cL_eatenFrom 9 = .ok (.goto 6, 3) := by decide +kernel
theorem dL_eatenFrom_12 : decode cL_eatenFrom 12 = .ok (.astore_n 3, 1) := by decide +kernel
theorem dL_eatenFrom_13 : decode cL_eatenFrom 13 = .ok (.iconst 1, 1) := by decide +kernel
theorem dL_eatenFrom_14 : decode cL_eatenFrom 14 = .ok (.ireturn, 1) := by decide +kernel
theorem dL_eatenFrom_15 : decode cL_eatenFrom 15 = .ok (.iconst 0, 1) := by decide +kernel
theorem dL_eatenFrom_16 : decode cL_eatenFrom 16 = .ok (.ireturn, 1) := by decide +kernel
theorem dL_catOfShift_0 : decode cL_catOfShift 0 = .ok (.aload_n 2, 1) := by decide +kernel
theorem dL_catOfShift_1 : decode cL_catOfShift 1 = .ok (.iconst 0, 1) := by decide +kernel
theorem dL_catOfShift_2 : decode cL_catOfShift 2 = .ok (.aload_n 0, 1) := by decide +kernel
theorem dL_catOfShift_3 : decode cL_catOfShift 3 = .ok (.iload_n 1, 1) := by decide +kernel
theorem dL_catOfShift_4 : decode cL_catOfShift 4 = .ok (.invokevirtual 50, 3) := by decide +kernel
theorem dL_catOfShift_7 : decode cL_catOfShift 7 = .ok (.i2l, 1) := by decide +kernel
theorem dL_catOfShift_8 : decode cL_catOfShift 8 = .ok (.lastore, 1) := by decide +kernel
theorem dL_catOfShift_9 : decode cL_catOfShift 9 = .ok (.goto 6, 3) := by decide +kernel
theorem dL_catOfShift_12 : decode cL_catOfShift 12 = .ok (.astore_n 3, 1) := by decide +kernel
theorem dL_catOfShift_13 : decode cL_catOfShift 13 = .ok (.iconst 1, 1) := by decide +kernel
theorem dL_catOfShift_14 : decode cL_catOfShift 14 = .ok (.ireturn, 1) := by decide +kernel
theorem dL_catOfShift_15 : decode cL_catOfShift 15 = .ok (.iconst 0, 1) := by decide +kernel
theorem dL_catOfShift_16 : decode cL_catOfShift 16 = .ok (.ireturn, 1) := by decide +kernel
theorem dL_hoursOfShift_0 : decode cL_hoursOfShift 0 = .ok (.aload_n 2, 1) := by decide +kernel
theorem dL_hoursOfShift_1 : decode cL_hoursOfShift 1 = .ok (.iconst 0, 1) := by decide +kernel
theorem dL_hoursOfShift_2 : decode cL_hoursOfShift 2 = .ok (.aload_n 0, 1) := by decide +kernel
theorem dL_hoursOfShift_3 : decode cL_hoursOfShift 3 = .ok (.iload_n 1, 1) := by decide +kernel
theorem dL_hoursOfShift_4 : decode cL_hoursOfShift 4 = .ok (.invokevirtual 53, 3) := by decide +kernel
theorem dL_hoursOfShift_7 : decode cL_hoursOfShift 7 = .ok (.i2l, 1) := by decide +kernel
theorem dL_hoursOfShift_8 : decode cL_hoursOfShift 8 = .ok (.lastore, 1) := by decide +kernel
theorem dL_hoursOfShift_9 : decode cL_hoursOfShift 9 = .ok (.goto 6, 3) := by decide +kernel
theorem dL_hoursOfShift_12 : decode cL_hoursOfShift 12 = .ok (.astore_n 3, 1) := by decide +kernel
theorem dL_hoursOfShift_13 : decode cL_hoursOfShift 13 = .ok (.iconst 1, 1) := by decide +kernel
theorem dL_hoursOfShift_14 : decode cL_hoursOfShift 14 = .ok (.ireturn, 1) := by decide +kernel
theorem dL_hoursOfShift_15 : decode cL_hoursOfShift 15 = .ok (.iconst 0, 1) := by decide +kernel
theorem dL_hoursOfShift_16 : decode cL_hoursOfShift 16 = .ok (.ireturn, 1) := by decide +kernel
theorem dL_oathReason_0 : decode cL_oathReason 0 = .ok (.aload_n 2, 1) := by decide +kernel
theorem dL_oathReason_1 : decode cL_oathReason 1 = .ok (.iconst 0, 1) := by decide +kernel
theorem dL_oathReason_2 : decode cL_oathReason 2 = .ok (.aload_n 0, 1) := by decide +kernel
theorem dL_oathReason_3 : decode cL_oathReason 3 = .ok (.iload_n 1, 1) := by decide +kernel
theorem dL_oathReason_4 : decode cL_oathReason 4 = .ok (.invokevirtual 56, 3) := by decide +kernel
theorem dL_oathReason_7 : decode cL_oathReason 7 = .ok (.i2l, 1) := by decide +kernel
theorem dL_oathReason_8 : decode cL_oathReason 8 = .ok (.lastore, 1) := by decide +kernel
theorem dL_oathReason_9 : decode cL_oathReason 9 = .ok (.goto 6, 3) := by decide +kernel
theorem dL_oathReason_12 : decode cL_oathReason 12 = .ok (.astore_n 3, 1) := by decide +kernel
theorem dL_oathReason_13 : decode cL_oathReason 13 = .ok (.iconst 1, 1) := by decide +kernel
theorem dL_oathReason_14 : decode cL_oathReason 14 = .ok (.ireturn, 1) := by decide +kernel
theorem dL_oathReason_15 : decode cL_oathReason 15 = .ok (.iconst 0, 1) := by decide +kernel
theorem dL_oathReason_16 : decode cL_oathReason 16 = .ok (.ireturn, 1) := by decide +kernel
theorem dL_miceAfter_0 : decode cL_miceAfter 0 = .ok (.aload_n 3, 1) := by decide +kernel
theorem dL_miceAfter_1 : decode cL_miceAfter 1 = .ok (.iconst 0, 1) := by decide +kernel
theorem dL_miceAfter_2 : decode cL_miceAfter 2 = .ok (.aload_n 0, 1) := by decide +kernel
theorem dL_miceAfter_3 : decode cL_miceAfter 3 = .ok (.iload_n 1, 1) := by decide +kernel
theorem dL_miceAfter_4 : decode cL_miceAfter 4 = .ok (.iload_n 2, 1) := by decide +kernel
theorem dL_miceAfter_5 : decode cL_miceAfter 5 = .ok (.invokevirtual 59, 3) := by decide +kernel
theorem dL_miceAfter_8 : decode cL_miceAfter 8 = .ok (.i2l, 1) := by decide +kernel
theorem dL_miceAfter_9 : decode cL_miceAfter 9 = .ok (.lastore, 1) := by decide +kernel
theorem dL_miceAfter_10 : decode cL_miceAfter 10 = .ok (.goto 11, 3) := by decide +kernel
theorem dL_miceAfter_13 : decode cL_miceAfter 13 = .ok (.astore 4, 2) := by decide +kernel
theorem dL_miceAfter_15 : decode cL_miceAfter 15 = .ok (.iconst 1, 1) := by decide +kernel
theorem dL_miceAfter_16 : decode cL_miceAfter 16 = .ok (.ireturn, 1) := by decide +kernel
theorem dL_miceAfter_17 : decode cL_miceAfter 17 = .ok (.astore 4, 2) := by decide +kernel
theorem dL_miceAfter_19 : decode cL_miceAfter 19 = .ok (.iconst 2, 1) := by decide +kernel
theorem dL_miceAfter_20 : decode cL_miceAfter 20 = .ok (.ireturn, 1) := by decide +kernel
theorem dL_miceAfter_21 : decode cL_miceAfter 21 = .ok (.iconst 0, 1) := by decide +kernel
theorem dL_miceAfter_22 : decode cL_miceAfter 22 = .ok (.ireturn, 1) := by decide +kernel
theorem dL_grainAfter_0 : decode cL_grainAfter 0 = .ok (.aload_n 3, 1) := by decide +kernel
theorem dL_grainAfter_1 : decode cL_grainAfter 1 = .ok (.iconst 0, 1) := by decide +kernel
theorem dL_grainAfter_2 : decode cL_grainAfter 2 = .ok (.aload_n 0, 1) := by decide +kernel
theorem dL_grainAfter_3 : decode cL_grainAfter 3 = .ok (.iload_n 1, 1) := by decide +kernel
theorem dL_grainAfter_4 : decode cL_grainAfter 4 = .ok (.iload_n 2, 1) := by decide +kernel
theorem dL_grainAfter_5 : decode cL_grainAfter 5 = .ok (.invokevirtual 64, 3) := by decide +kernel
theorem dL_grainAfter_8 : decode cL_grainAfter 8 = .ok (.i2l, 1) := by decide +kernel
theorem dL_grainAfter_9 : decode cL_grainAfter 9 = .ok (.lastore, 1) := by decide +kernel
theorem dL_grainAfter_10 : decode cL_grainAfter 10 = .ok (.goto 11, 3) := by decide +kernel
theorem dL_grainAfter_13 : decode cL_grainAfter 13 = .ok (.astore 4, 2) := by decide +kernel
theorem dL_grainAfter_15 : decode cL_grainAfter 15 = .ok (.iconst 1, 1) := by decide +kernel
theorem dL_grainAfter_16 : decode cL_grainAfter 16 = .ok (.ireturn, 1) := by decide +kernel
theorem dL_grainAfter_17 : decode cL_grainAfter 17 = .ok (.astore 4, 2) := by decide +kernel
theorem dL_grainAfter_19 : decode cL_grainAfter 19 = .ok (.iconst 2, 1) := by decide +kernel
theorem dL_grainAfter_20 : decode cL_grainAfter 20 = .ok (.ireturn, 1) := by decide +kernel
theorem dL_grainAfter_21 : decode cL_grainAfter 21 = .ok (.iconst 0, 1) := by decide +kernel
theorem dL_grainAfter_22 : decode cL_grainAfter 22 = .ok (.ireturn, 1) := by decide +kernel
theorem dL_swornAfter_0 : decode cL_swornAfter 0 = .ok (.aload_n 2, 1) := by decide +kernel
theorem dL_swornAfter_1 : decode cL_swornAfter 1 = .ok (.iconst 0, 1) := by decide +kernel
theorem dL_swornAfter_2 : decode cL_swornAfter 2 = .ok (.aload_n 0, 1) := by decide +kernel
theorem dL_swornAfter_3 : decode cL_swornAfter 3 = .ok (.iload_n 1, 1) := by decide +kernel
theorem dL_swornAfter_4 : decode cL_swornAfter 4 = .ok (.invokevirtual 67, 3) := by decide +kernel
theorem dL_swornAfter_7 : decode cL_swornAfter 7 = .ok (.i2l, 1) := by decide +kernel
theorem dL_swornAfter_8 : decode cL_swornAfter 8 = .ok (.lastore, 1) := by decide +kernel
theorem dL_swornAfter_9 : decode cL_swornAfter 9 = .ok (.goto 6, 3) := by decide +kernel
theorem dL_swornAfter_12 : decode cL_swornAfter 12 = .ok (.astore_n 3, 1) := by decide +kernel
theorem dL_swornAfter_13 : decode cL_swornAfter 13 = .ok (.iconst 1, 1) := by decide +kernel
theorem dL_swornAfter_14 : decode cL_swornAfter 14 = .ok (.ireturn, 1) := by decide +kernel
theorem dL_swornAfter_15 : decode cL_swornAfter 15 = .ok (.iconst 0, 1) := by decide +kernel
theorem dL_swornAfter_16 : decode cL_swornAfter 16 = .ok (.ireturn, 1) := by decide +kernel
theorem dL_hoursUntilEmpty_0 : decode cL_hoursUntilEmpty 0 = .ok (.aload_n 2, 1) := by decide +kernel
theorem dL_hoursUntilEmpty_1 : decode cL_hoursUntilEmpty 1 = .ok (.iconst 0, 1) := by decide +kernel
theorem dL_hoursUntilEmpty_2 : decode cL_hoursUntilEmpty 2 = .ok (.aload_n 0, 1) := by decide +kernel
theorem dL_hoursUntilEmpty_3 : decode cL_hoursUntilEmpty 3 = .ok (.iload_n 1, 1) := by decide +kernel
theorem dL_hoursUntilEmpty_4 : decode cL_hoursUntilEmpty 4 = .ok (.invokevirtual 70, 3) := by decide +kernel
theorem dL_hoursUntilEmpty_7 : decode cL_hoursUntilEmpty 7 = .ok (.i2l, 1) := by decide +kernel
theorem dL_hoursUntilEmpty_8 : decode cL_hoursUntilEmpty 8 = .ok (.lastore, 1) := by decide +kernel
theorem dL_hoursUntilEmpty_9 : decode cL_hoursUntilEmpty 9 = .ok (.goto 6, 3) := by decide +kernel
theorem dL_hoursUntilEmpty_12 : decode cL_hoursUntilEmpty 12 = .ok (.astore_n 3, 1) := by decide +kernel
theorem dL_hoursUntilEmpty_13 : decode cL_hoursUntilEmpty 13 = .ok (.iconst 1, 1) := by decide +kernel
theorem dL_hoursUntilEmpty_14 : decode cL_hoursUntilEmpty 14 = .ok (.ireturn, 1) := by decide +kernel
theorem dL_hoursUntilEmpty_15 : decode cL_hoursUntilEmpty 15 = .ok (.iconst 0, 1) := by decide +kernel
theorem dL_hoursUntilEmpty_16 : decode cL_hoursUntilEmpty 16 = .ok (.ireturn, 1) := by decide +kernel
theorem dL_caughtWithin_0 : decode cL_caughtWithin 0 = .ok (.aload_n 2, 1) := by decide +kernel
theorem dL_caughtWithin_1 : decode cL_caughtWithin 1 = .ok (.iconst 0, 1) := by decide +kernel
theorem dL_caughtWithin_2 : decode cL_caughtWithin 2 = .ok (.aload_n 0, 1) := by decide +kernel
theorem dL_caughtWithin_3 : decode cL_caughtWithin 3 = .ok (.iload_n 1, 1) := by decide +kernel
theorem dL_caughtWithin_4 : decode cL_caughtWithin 4 = .ok (.invokevirtual 73, 3) := by decide +kernel
theorem dL_caughtWithin_7 : decode cL_caughtWithin 7 = .ok (.i2l, 1) := by decide +kernel
theorem dL_caughtWithin_8 : decode cL_caughtWithin 8 = .ok (.lastore, 1) := by decide +kernel
theorem dL_caughtWithin_9 : decode cL_caughtWithin 9 = .ok (.goto 6, 3) := by decide +kernel
theorem dL_caughtWithin_12 : decode cL_caughtWithin 12 = .ok (.astore_n 3, 1) := by decide +kernel
theorem dL_caughtWithin_13 : decode cL_caughtWithin 13 = .ok (.iconst 1, 1) := by decide +kernel
theorem dL_caughtWithin_14 : decode cL_caughtWithin 14 = .ok (.ireturn, 1) := by decide +kernel
theorem dL_caughtWithin_15 : decode cL_caughtWithin 15 = .ok (.iconst 0, 1) := by decide +kernel
theorem dL_caughtWithin_16 : decode cL_caughtWithin 16 = .ok (.ireturn, 1) := by decide +kernel
theorem dL_bestFlapToChange_0 : decode cL_bestFlapToChange 0 = .ok (.aload_n 2, 1) := by decide +kernel
theorem dL_bestFlapToChange_1 : decode cL_bestFlapToChange 1 = .ok (.iconst 0, 1) := by decide +kernel
theorem dL_bestFlapToChange_2 : decode cL_bestFlapToChange 2 = .ok (.aload_n 0, 1) := by decide +kernel
theorem dL_bestFlapToChange_3 : decode cL_bestFlapToChange 3 = .ok (.iload_n 1, 1) := by decide +kernel
theorem dL_bestFlapToChange_4 : decode cL_bestFlapToChange 4 = .ok (.invokevirtual 76, 3) := by decide +kernel
theorem dL_bestFlapToChange_7 : decode cL_bestFlapToChange 7 = .ok (.i2l, 1) := by decide +kernel
theorem dL_bestFlapToChange_8 : decode cL_bestFlapToChange 8 = .ok (.lastore, 1) := by decide +kernel
theorem dL_bestFlapToChange_9 : decode cL_bestFlapToChange 9 = .ok (.goto 6, 3) := by decide +kernel
theorem dL_bestFlapToChange_12 : decode cL_bestFlapToChange 12 = .ok (.astore_n 3, 1) := by decide +kernel
theorem dL_bestFlapToChange_13 : decode cL_bestFlapToChange 13 = .ok (.iconst 1, 1) := by decide +kernel
theorem dL_bestFlapToChange_14 : decode cL_bestFlapToChange 14 = .ok (.ireturn, 1) := by decide +kernel
theorem dL_bestFlapToChange_15 : decode cL_bestFlapToChange 15 = .ok (.iconst 0, 1) := by decide +kernel
theorem dL_bestFlapToChange_16 : decode cL_bestFlapToChange 16 = .ok (.ireturn, 1) := by decide +kernel
theorem dL_shareOf_0 : decode cL_shareOf 0 = .ok (.aload_n 2, 1) := by decide +kernel
theorem dL_shareOf_1 : decode cL_shareOf 1 = .ok (.iconst 0, 1) := by decide +kernel
theorem dL_shareOf_2 : decode cL_shareOf 2 = .ok (.aload_n 0, 1) := by decide +kernel
theorem dL_shareOf_3 : decode cL_shareOf 3 = .ok (.iload_n 1, 1) := by decide +kernel
theorem dL_shareOf_4 : decode cL_shareOf 4 = .ok (.invokevirtual 79, 3) := by decide +kernel
theorem dL_shareOf_7 : decode cL_shareOf 7 = .ok (.f2d, 1) := by decide +kernel
theorem dL_shareOf_8 : decode cL_shareOf 8 = .ok (.dastore, 1) := by decide +kernel
theorem dL_shareOf_9 : decode cL_shareOf 9 = .ok (.goto 6, 3) := by decide +kernel
theorem dL_shareOf_12 : decode cL_shareOf 12 = .ok (.astore_n 3, 1) := by decide +kernel
theorem dL_shareOf_13 : decode cL_shareOf 13 = .ok (.iconst 1, 1) := by decide +kernel
theorem dL_shareOf_14 : decode cL_shareOf 14 = .ok (.ireturn, 1) := by decide +kernel
theorem dL_shareOf_15 : decode cL_shareOf 15 = .ok (.iconst 0, 1) := by decide +kernel
theorem dL_shareOf_16 : decode cL_shareOf 16 = .ok (.ireturn, 1) := by decide +kernel
theorem dL_letPass_0 : decode cL_letPass 0 = .ok (.aload_n 2, 1) := by decide +kernel
theorem dL_letPass_1 : decode cL_letPass 1 = .ok (.iconst 0, 1) := by decide +kernel
theorem dL_letPass_2 : decode cL_letPass 2 = .ok (.aload_n 0, 1) := by decide +kernel
theorem dL_letPass_3 : decode cL_letPass 3 = .ok (.iload_n 1, 1) := by decide +kernel
theorem dL_letPass_4 : decode cL_letPass 4 = .ok (.invokevirtual 83, 3) := by decide +kernel
theorem dL_letPass_7 : decode cL_letPass 7 = .ok (.i2l, 1) := by decide +kernel
theorem dL_letPass_8 : decode cL_letPass 8 = .ok (.lastore, 1) := by decide +kernel
theorem dL_letPass_9 : decode cL_letPass 9 = .ok (.goto 9, 3) := by decide +kernel
theorem dL_letPass_12 : decode cL_letPass 12 = .ok (.astore_n 3, 1) := by decide +kernel
theorem dL_letPass_13 : decode cL_letPass 13 = .ok (.iconst 1, 1) := by decide +kernel
theorem dL_letPass_14 : decode cL_letPass 14 = .ok (.ireturn, 1) := by decide +kernel
theorem dL_letPass_15 : decode cL_letPass 15 = .ok (.astore_n 3, 1) := by decide +kernel
theorem dL_letPass_16 : decode cL_letPass 16 = .ok (.iconst 2, 1) := by decide +kernel
theorem dL_letPass_17 : decode cL_letPass 17 = .ok (.ireturn, 1) := by decide +kernel
theorem dL_letPass_18 : decode cL_letPass 18 = .ok (.iconst 0, 1) := by decide +kernel
theorem dL_letPass_19 : decode cL_letPass 19 = .ok (.ireturn, 1) := by decide +kernel
theorem dL_openFlap_0 : decode cL_openFlap 0 = .ok (.aload_n 2, 1) := by decide +kernel
theorem dL_openFlap_1 : decode cL_openFlap 1 = .ok (.iconst 0, 1) := by decide +kernel
theorem dL_openFlap_2 : decode cL_openFlap 2 = .ok (.aload_n 0, 1) := by decide +kernel
theorem dL_openFlap_3 : decode cL_openFlap 3 = .ok (.iload_n 1, 1) := by decide +kernel
theorem dL_openFlap_4 : decode cL_openFlap 4 = .ok (.invokevirtual 88, 3) := by decide +kernel
theorem dL_openFlap_7 : decode cL_openFlap 7 = .ok (.i2l, 1) := by decide +kernel
theorem dL_openFlap_8 : decode cL_openFlap 8 = .ok (.lastore, 1) := by decide +kernel
theorem dL_openFlap_9 : decode cL_openFlap 9 = .ok (.goto 9, 3) := by decide +kernel
theorem dL_openFlap_12 : decode cL_openFlap 12 = .ok (.astore_n 3, 1) := by decide +kernel
theorem dL_openFlap_13 : decode cL_openFlap 13 = .ok (.iconst 1, 1) := by decide +kernel
theorem dL_openFlap_14 : decode cL_openFlap 14 = .ok (.ireturn, 1) := by decide +kernel
theorem dL_openFlap_15 : decode cL_openFlap 15 = .ok (.astore_n 3, 1) := by decide +kernel
theorem dL_openFlap_16 : decode cL_openFlap 16 = .ok (.iconst 2, 1) := by decide +kernel
theorem dL_openFlap_17 : decode cL_openFlap 17 = .ok (.ireturn, 1) := by decide +kernel
theorem dL_openFlap_18 : decode cL_openFlap 18 = .ok (.iconst 0, 1) := by decide +kernel
theorem dL_openFlap_19 : decode cL_openFlap 19 = .ok (.ireturn, 1) := by decide +kernel
theorem dL_shutFlap_0 : decode cL_shutFlap 0 = .ok (.aload_n 2, 1) := by decide +kernel
theorem dL_shutFlap_1 : decode cL_shutFlap 1 = .ok (.iconst 0, 1) := by decide +kernel
theorem dL_shutFlap_2 : decode cL_shutFlap 2 = .ok (.aload_n 0, 1) := by decide +kernel
theorem dL_shutFlap_3 : decode cL_shutFlap 3 = .ok (.iload_n 1, 1) := by decide +kernel
theorem dL_shutFlap_4 : decode cL_shutFlap 4 = .ok (.invokevirtual 91, 3) := by decide +kernel
theorem dL_shutFlap_7 : decode cL_shutFlap 7 = .ok (.i2l, 1) := by decide +kernel
theorem dL_shutFlap_8 : decode cL_shutFlap 8 = .ok (.lastore, 1) := by decide +kernel
theorem dL_shutFlap_9 : decode cL_shutFlap 9 = .ok (.goto 9, 3) := by decide +kernel
theorem dL_shutFlap_12 : decode cL_shutFlap 12 = .ok (.astore_n 3, 1) := by decide +kernel
theorem dL_shutFlap_13 : decode cL_shutFlap 13 = .ok (.iconst 1, 1) := by decide +kernel
theorem dL_shutFlap_14 : decode cL_shutFlap 14 = .ok (.ireturn, 1) := by decide +kernel
theorem dL_shutFlap_15 : decode cL_shutFlap 15 = .ok (.astore_n 3, 1) := by decide +kernel
theorem dL_shutFlap_16 : decode cL_shutFlap 16 = .ok (.iconst 2, 1) := by decide +kernel
theorem dL_shutFlap_17 : decode cL_shutFlap 17 = .ok (.ireturn, 1) := by decide +kernel
theorem dL_shutFlap_18 : decode cL_shutFlap 18 = .ok (.iconst 0, 1) := by decide +kernel
theorem dL_shutFlap_19 : decode cL_shutFlap 19 = .ok (.ireturn, 1) := by decide +kernel
theorem dL_addMice_0 : decode cL_addMice 0 = .ok (.aload_n 3, 1) := by decide +kernel
theorem dL_addMice_1 : decode cL_addMice 1 = .ok (.iconst 0, 1) := by decide +kernel
theorem dL_addMice_2 : decode cL_addMice 2 = .ok (.aload_n 0, 1) := by decide +kernel
theorem dL_addMice_3 : decode cL_addMice 3 = .ok (.iload_n 1, 1) := by decide +kernel
theorem dL_addMice_4 : decode cL_addMice 4 = .ok (.iload_n 2, 1) := by decide +kernel
theorem dL_addMice_5 : decode cL_addMice 5 = .ok (.invokevirtual 94, 3) := by decide +kernel
theorem dL_addMice_8 : decode cL_addMice 8 = .ok (.i2l, 1) := by decide +kernel
theorem dL_addMice_9 : decode cL_addMice 9 = .ok (.lastore, 1) := by decide +kernel
theorem dL_addMice_10 : decode cL_addMice 10 = .ok (.goto 15, 3) := by decide +kernel
theorem dL_addMice_13 : decode cL_addMice 13 = .ok (.astore 4, 2) := by decide +kernel
theorem dL_addMice_15 : decode cL_addMice 15 = .ok (.iconst 1, 1) := by decide +kernel
theorem dL_addMice_16 : decode cL_addMice 16 = .ok (.ireturn, 1) := by decide +kernel
theorem dL_addMice_17 : decode cL_addMice 17 = .ok (.astore 4, 2) := by decide +kernel
theorem dL_addMice_19 : decode cL_addMice 19 = .ok (.iconst 2, 1) := by decide +kernel
theorem dL_addMice_20 : decode cL_addMice 20 = .ok (.ireturn, 1) := by decide +kernel
theorem dL_addMice_21 : decode cL_addMice 21 = .ok (.astore 4, 2) := by decide +kernel
theorem dL_addMice_23 : decode cL_addMice 23 = .ok (.iconst 3, 1) := by decide +kernel
theorem dL_addMice_24 : decode cL_addMice 24 = .ok (.ireturn, 1) := by decide +kernel
theorem dL_addMice_25 : decode cL_addMice 25 = .ok (.iconst 0, 1) := by decide +kernel
theorem dL_addMice_26 : decode cL_addMice 26 = .ok (.ireturn, 1) := by decide +kernel
theorem dL_addGrain_0 : decode cL_addGrain 0 = .ok (.aload_n 3, 1) := by decide +kernel
theorem dL_addGrain_1 : decode cL_addGrain 1 = .ok (.iconst 0, 1) := by decide +kernel
theorem dL_addGrain_2 : decode cL_addGrain 2 = .ok (.aload_n 0, 1) := by decide +kernel
theorem dL_addGrain_3 : decode cL_addGrain 3 = .ok (.iload_n 1, 1) := by decide +kernel
theorem dL_addGrain_4 : decode cL_addGrain 4 = .ok (.iload_n 2, 1) := by decide +kernel
theorem dL_addGrain_5 : decode cL_addGrain 5 = .ok (.invokevirtual 97, 3) := by decide +kernel
theorem dL_addGrain_8 : decode cL_addGrain 8 = .ok (.i2l, 1) := by decide +kernel
theorem dL_addGrain_9 : decode cL_addGrain 9 = .ok (.lastore, 1) := by decide +kernel
theorem dL_addGrain_10 : decode cL_addGrain 10 = .ok (.goto 15, 3) := by decide +kernel
theorem dL_addGrain_13 : decode cL_addGrain 13 = .ok (.astore 4, 2) := by decide +kernel
theorem dL_addGrain_15 : decode cL_addGrain 15 = .ok (.iconst 1, 1) := by decide +kernel
theorem dL_addGrain_16 : decode cL_addGrain 16 = .ok (.ireturn, 1) := by decide +kernel
theorem dL_addGrain_17 : decode cL_addGrain 17 = .ok (.astore 4, 2) := by decide +kernel
theorem dL_addGrain_19 : decode cL_addGrain 19 = .ok (.iconst 2, 1) := by decide +kernel
theorem dL_addGrain_20 : decode cL_addGrain 20 = .ok (.ireturn, 1) := by decide +kernel
theorem dL_addGrain_21 : decode cL_addGrain 21 = .ok (.astore 4, 2) := by decide +kernel
theorem dL_addGrain_23 : decode cL_addGrain 23 = .ok (.iconst 3, 1) := by decide +kernel
theorem dL_addGrain_24 : decode cL_addGrain 24 = .ok (.ireturn, 1) := by decide +kernel
theorem dL_addGrain_25 : decode cL_addGrain 25 = .ok (.iconst 0, 1) := by decide +kernel
theorem dL_addGrain_26 : decode cL_addGrain 26 = .ok (.ireturn, 1) := by decide +kernel
theorem dL_dismiss_0 : decode cL_dismiss 0 = .ok (.aload_n 1, 1) := by decide +kernel
theorem dL_dismiss_1 : decode cL_dismiss 1 = .ok (.iconst 0, 1) := by decide +kernel
theorem dL_dismiss_2 : decode cL_dismiss 2 = .ok (.aload_n 0, 1) := by decide +kernel
theorem dL_dismiss_3 : decode cL_dismiss 3 = .ok (.invokevirtual 100, 3) := by decide +kernel
theorem dL_dismiss_6 : decode cL_dismiss 6 = .ok (.i2l, 1) := by decide +kernel
theorem dL_dismiss_7 : decode cL_dismiss 7 = .ok (.lastore, 1) := by decide +kernel
theorem dL_dismiss_8 : decode cL_dismiss 8 = .ok (.goto 6, 3) := by decide +kernel
theorem dL_dismiss_11 : decode cL_dismiss 11 = .ok (.astore_n 2, 1) := by decide +kernel
theorem dL_dismiss_12 : decode cL_dismiss 12 = .ok (.iconst 1, 1) := by decide +kernel
theorem dL_dismiss_13 : decode cL_dismiss 13 = .ok (.ireturn, 1) := by decide +kernel
theorem dL_dismiss_14 : decode cL_dismiss 14 = .ok (.iconst 0, 1) := by decide +kernel
theorem dL_dismiss_15 : decode cL_dismiss 15 = .ok (.ireturn, 1) := by decide +kernel
theorem dL_setMilk_0 : decode cL_setMilk 0 = .ok (.aload_n 2, 1) := by decide +kernel
theorem dL_setMilk_1 : decode cL_setMilk 1 = .ok (.iconst 0, 1) := by decide +kernel
theorem dL_setMilk_2 : decode cL_setMilk 2 = .ok (.aload_n 0, 1) := by decide +kernel
theorem dL_setMilk_3 : decode cL_setMilk 3 = .ok (.iload_n 1, 1) := by decide +kernel
theorem dL_setMilk_4 : decode cL_setMilk 4 = .ok (.invokevirtual 104, 3) := by decide +kernel
theorem dL_setMilk_7 : decode cL_setMilk 7 = .ok (.i2l, 1) := by decide +kernel
theorem dL_setMilk_8 : decode cL_setMilk 8 = .ok (.lastore, 1) := by decide +kernel
theorem dL_setMilk_9 : decode cL_setMilk 9 = .ok (.goto 6, 3) := by decide +kernel
theorem dL_setMilk_12 : decode cL_setMilk 12 = .ok (.astore_n 3, 1) := by decide +kernel
theorem dL_setMilk_13 : decode cL_setMilk 13 = .ok (.iconst 1, 1) := by decide +kernel
theorem dL_setMilk_14 : decode cL_setMilk 14 = .ok (.ireturn, 1) := by decide +kernel
theorem dL_setMilk_15 : decode cL_setMilk 15 = .ok (.iconst 0, 1) := by decide +kernel
theorem dL_setMilk_16 : decode cL_setMilk 16 = .ok (.ireturn, 1) := by decide +kernel
theorem dL_undo_0 : decode cL_undo 0 = .ok (.aload_n 1, 1) := by decide +kernel
theorem dL_undo_1 : decode cL_undo 1 = .ok (.iconst 0, 1) := by decide +kernel
theorem dL_undo_2 : decode cL_undo 2 = .ok (.aload_n 0, 1) := by decide +kernel
theorem dL_undo_3 : decode cL_undo 3 = .ok (.invokevirtual 107, 3) := by decide +kernel
theorem dL_undo_6 : decode cL_undo 6 = .ok (.i2l, 1) := by decide +kernel
theorem dL_undo_7 : decode cL_undo 7 = .ok (.lastore, 1) := by decide +kernel
theorem dL_undo_8 : decode cL_undo 8 = .ok (.goto 6, 3) := by decide +kernel
theorem dL_undo_11 : decode cL_undo 11 = .ok (.astore_n 2, 1) := by decide +kernel
theorem dL_undo_12 : decode cL_undo 12 = .ok (.iconst 1, 1) := by decide +kernel
theorem dL_undo_13 : decode cL_undo 13 = .ok (.ireturn, 1) := by decide +kernel
theorem dL_undo_14 : decode cL_undo 14 = .ok (.iconst 0, 1) := by decide +kernel
theorem dL_undo_15 : decode cL_undo 15 = .ok (.ireturn, 1) := by decide +kernel
theorem dL_restoreState_0 : decode cL_restoreState 0 = .ok (.aload_n 1, 1) := by decide +kernel
theorem dL_restoreState_1 : decode cL_restoreState 1 = .ok (.iconst 0, 1) := by decide +kernel
theorem dL_restoreState_2 : decode cL_restoreState 2 = .ok (.aload_n 0, 1) := by decide +kernel
theorem dL_restoreState_3 : decode cL_restoreState 3 = .ok (.invokevirtual 112, 3) := by decide +kernel
theorem dL_restoreState_6 : decode cL_restoreState 6 = .ok (.i2l, 1) := by decide +kernel
theorem dL_restoreState_7 : decode cL_restoreState 7 = .ok (.lastore, 1) := by decide +kernel
theorem dL_restoreState_8 : decode cL_restoreState 8 = .ok (.goto 6, 3) := by decide +kernel
theorem dL_restoreState_11 : decode cL_restoreState 11 = .ok (.astore_n 2, 1) := by decide +kernel
theorem dL_restoreState_12 : decode cL_restoreState 12 = .ok (.iconst 1, 1) := by decide +kernel
theorem dL_restoreState_13 : decode cL_restoreState 13 = .ok (.ireturn, 1) := by decide +kernel
theorem dL_restoreState_14 : decode cL_restoreState 14 = .ok (.iconst 0, 1) := by decide +kernel
theorem dL_restoreState_15 : decode cL_restoreState 15 = .ok (.ireturn, 1) := by decide +kernel
theorem dL_law_0 : decode cL_law 0 = .ok (.new 8, 3) := by decide +kernel
theorem dL_law_3 : decode cL_law 3 = .ok (.dup, 1) := by decide +kernel
theorem dL_law_4 : decode cL_law 4 = .ok (.invokespecial 115, 3) := by decide +kernel
theorem dL_law_7 : decode cL_law 7 = .ok (.astore_n 1, 1) := by decide +kernel
theorem dL_law_8 : decode cL_law 8 = .ok (.new 116, 3) := by decide +kernel
theorem dL_law_11 : decode cL_law 11 = .ok (.dup, 1) := by decide +kernel
theorem dL_law_12 : decode cL_law 12 = .ok (.invokespecial 118, 3) := by decide +kernel
theorem dL_law_15 : decode cL_law 15 = .ok (.astore_n 2, 1) := by decide +kernel
theorem dL_law_16 : decode cL_law 16 = .ok (.iconst 1, 1) := by decide +kernel
theorem dL_law_17 : decode cL_law 17 = .ok (.newarray .long, 2) := by decide +kernel
theorem dL_law_19 : decode cL_law 19 = .ok (.astore_n 3, 1) := by decide +kernel
theorem dL_law_20 : decode cL_law 20 = .ok (.iconst 1, 1) := by decide +kernel
theorem dL_law_21 : decode cL_law 21 = .ok (.newarray .double, 2) := by decide +kernel
theorem dL_law_23 : decode cL_law 23 = .ok (.astore 4, 2) := by decide +kernel
theorem dL_law_25 : decode cL_law 25 = .ok (.iconst 0, 1) := by decide +kernel
theorem dL_law_26 : decode cL_law 26 = .ok (.istore 5, 2) := by decide +kernel
theorem dL_law_28 : decode cL_law 28 = .ok (.iload 5, 2) := by decide +kernel
theorem dL_law_30 : decode cL_law 30 = .ok (.aload_n 0, 1) := by decide +kernel
theorem dL_law_31 : decode cL_law 31 = .ok (.arraylength, 1) := by decide +kernel
theorem dL_law_32 : decode cL_law 32 = .ok (.bipush 6, 2) := by decide +kernel
theorem dL_law_34 : decode cL_law 34 = .ok (.isub, 1) := by decide +kernel
theorem dL_law_35 : decode cL_law 35 = .ok (.if_icmp .gt 2655, 3) := by decide +kernel
theorem dL_law_38 : decode cL_law 38 = .ok (.aload_n 0, 1) := by decide +kernel
theorem dL_law_39 : decode cL_law 39 = .ok (.iload 5, 2) := by decide +kernel
theorem dL_law_41 : decode cL_law 41 = .ok (.iaload, 1) := by decide +kernel
theorem dL_law_42 : decode cL_law 42 = .ok (.bipush 63, 2) := by decide +kernel
theorem dL_law_44 : decode cL_law 44 = .ok (.iand, 1) := by decide +kernel
theorem dL_law_45 : decode cL_law 45 = .ok (.tableswitch 2639 0 62 #[267, 340, 365, 378, 391, 404, 417, 430, 443, 456, 469, 482, 550, 618, 674, 737, 793, 849, 905, 961, 1017, 1073, 1136, 1192, 1205, 1218, 1231, 1287, 1343, 1399, 1412, 1425, 1450, 1475, 1500, 1513, 1581, 1649, 1705, 1718, 1774, 1830, 1886, 1899, 1912, 1925, 1938, 1951, 1964, 1977, 2018, 2096, 2152, 2208, 2264, 2332, 2400, 2444, 2500, 2544, 2557, 2582, 2595], 267) := by decide +kernel
theorem dL_law_312 : decode cL_law 312 = .ok (.aload_n 1, 1) := by decide +kernel
theorem dL_law_313 : decode cL_law 313 = .ok (.aload_n 0, 1) := by decide +kernel
theorem dL_law_314 : decode cL_law 314 = .ok (.iload 5, 2) := by decide +kernel
theorem dL_law_316 : decode cL_law 316 = .ok (.iconst 1, 1) := by decide +kernel
theorem dL_law_317 : decode cL_law 317 = .ok (.iadd, 1) := by decide +kernel
theorem dL_law_318 : decode cL_law 318 = .ok (.iaload, 1) := by decide +kernel
theorem dL_law_319 : decode cL_law 319 = .ok (.aload_n 0, 1) := by decide +kernel
theorem dL_law_320 : decode cL_law 320 = .ok (.iload 5, 2) := by decide +kernel
theorem dL_law_322 : decode cL_law 322 = .ok (.iconst 2, 1) := by decide +kernel
theorem dL_law_323 : decode cL_law 323 = .ok (.iadd, 1) := by decide +kernel
theorem dL_law_324 : decode cL_law 324 = .ok (.iaload, 1) := by decide +kernel
theorem dL_law_325 : decode cL_law 325 = .ok (.aload_n 0, 1) := by decide +kernel
theorem dL_law_326 : decode cL_law 326 = .ok (.iload 5, 2) := by decide +kernel
theorem dL_law_328 : decode cL_law 328 = .ok (.iconst 3, 1) := by decide +kernel
theorem dL_law_329 : decode cL_law 329 = .ok (.iadd, 1) := by decide +kernel
theorem dL_law_330 : decode cL_law 330 = .ok (.iaload, 1) := by decide +kernel
theorem dL_law_331 : decode cL_law 331 = .ok (.aload_n 0, 1) := by decide +kernel
theorem dL_law_332 : decode cL_law 332 = .ok (.iload 5, 2) := by decide +kernel
theorem dL_law_334 : decode cL_law 334 = .ok (.iconst 4, 1) := by decide +kernel
theorem dL_law_335 : decode cL_law 335 = .ok (.iadd, 1) := by decide +kernel
theorem dL_law_336 : decode cL_law 336 = .ok (.iaload, 1) := by decide +kernel
theorem dL_law_337 : decode cL_law 337 = .ok (.aload_n 0, 1) := by decide +kernel
theorem dL_law_338 : decode cL_law 338 = .ok (.iload 5, 2) := by decide +kernel
theorem dL_law_340 : decode cL_law 340 = .ok (.iconst 5, 1) := by decide +kernel
theorem dL_law_341 : decode cL_law 341 = .ok (.iadd, 1) := by decide +kernel
theorem dL_law_342 : decode cL_law 342 = .ok (.iaload, 1) := by decide +kernel
theorem dL_law_343 : decode cL_law 343 = .ok (.invokevirtual 119, 3) := by decide +kernel
theorem dL_law_346 : decode cL_law 346 = .ok (.aload_n 2, 1) := by decide +kernel
theorem dL_law_347 : decode cL_law 347 = .ok (.aload_n 0, 1) := by decide +kernel
theorem dL_law_348 : decode cL_law 348 = .ok (.iload 5, 2) := by decide +kernel
theorem dL_law_350 : decode cL_law 350 = .ok (.iconst 1, 1) := by decide +kernel
theorem dL_law_351 : decode cL_law 351 = .ok (.iadd, 1) := by decide +kernel
theorem dL_law_352 : decode cL_law 352 = .ok (.iaload, 1) := by decide +kernel
theorem dL_law_353 : decode cL_law 353 = .ok (.aload_n 0, 1) := by decide +kernel
theorem dL_law_354 : decode cL_law 354 = .ok (.iload 5, 2) := by decide +kernel
theorem dL_law_356 : decode cL_law 356 = .ok (.iconst 2, 1) := by decide +kernel
theorem dL_law_357 : decode cL_law 357 = .ok (.iadd, 1) := by decide +kernel
theorem dL_law_358 : decode cL_law 358 = .ok (.iaload, 1) := by decide +kernel
theorem dL_law_359 : decode cL_law 359 = .ok (.aload_n 0, 1) := by decide +kernel
theorem dL_law_360 : decode cL_law 360 = .ok (.iload 5, 2) := by decide +kernel
theorem dL_law_362 : decode cL_law 362 = .ok (.iconst 3, 1) := by decide +kernel
theorem dL_law_363 : decode cL_law 363 = .ok (.iadd, 1) := by decide +kernel
theorem dL_law_364 : decode cL_law 364 = .ok (.iaload, 1) := by decide +kernel
theorem dL_law_365 : decode cL_law 365 = .ok (.aload_n 0, 1) := by decide +kernel
theorem dL_law_366 : decode cL_law 366 = .ok (.iload 5, 2) := by decide +kernel
theorem dL_law_368 : decode cL_law 368 = .ok (.iconst 4, 1) := by decide +kernel
theorem dL_law_369 : decode cL_law 369 = .ok (.iadd, 1) := by decide +kernel
theorem dL_law_370 : decode cL_law 370 = .ok (.iaload, 1) := by decide +kernel
theorem dL_law_371 : decode cL_law 371 = .ok (.aload_n 0, 1) := by decide +kernel
theorem dL_law_372 : decode cL_law 372 = .ok (.iload 5, 2) := by decide +kernel
theorem dL_law_374 : decode cL_law 374 = .ok (.iconst 5, 1) := by decide +kernel
theorem dL_law_375 : decode cL_law 375 = .ok (.iadd, 1) := by decide +kernel
theorem dL_law_376 : decode cL_law 376 = .ok (.iaload, 1) := by decide +kernel
theorem dL_law_377 : decode cL_law 377 = .ok (.invokevirtual 123, 3) := by decide +kernel
theorem dL_law_380 : decode cL_law 380 = .ok (.if_icmp .eq 2304, 3) := by decide +kernel
theorem dL_law_383 : decode cL_law 383 = .ok (.iconst 0, 1) := by decide +kernel
theorem dL_law_384 : decode cL_law 384 = .ok (.ireturn, 1) := by decide +kernel
theorem dL_law_385 : decode cL_law 385 = .ok (.aload_n 1, 1) := by decide +kernel
theorem dL_law_386 : decode cL_law 386 = .ok (.aload_n 0, 1) := by decide +kernel
theorem dL_law_387 : decode cL_law 387 = .ok (.iload 5, 2) := by decide +kernel
theorem dL_law_389 : decode cL_law 389 = .ok (.iconst 1, 1) := by decide +kernel
theorem dL_law_390 : decode cL_law 390 = .ok (.iadd, 1) := by decide +kernel
theorem dL_law_391 : decode cL_law 391 = .ok (.iaload, 1) := by decide +kernel
theorem dL_law_392 : decode cL_law 392 = .ok (.invokevirtual 124, 3) := by decide +kernel
theorem dL_law_395 : decode cL_law 395 = .ok (.aload_n 2, 1) := by decide +kernel
theorem dL_law_396 : decode cL_law 396 = .ok (.aload_n 0, 1) := by decide +kernel
theorem dL_law_397 : decode cL_law 397 = .ok (.iload 5, 2) := by decide +kernel
theorem dL_law_399 : decode cL_law 399 = .ok (.iconst 1, 1) := by decide +kernel
theorem dL_law_400 : decode cL_law 400 = .ok (.iadd, 1) := by decide +kernel
theorem dL_law_401 : decode cL_law 401 = .ok (.iaload, 1) := by decide +kernel
theorem dL_law_402 : decode cL_law 402 = .ok (.invokevirtual 127, 3) := by decide +kernel
theorem dL_law_405 : decode cL_law 405 = .ok (.if_icmp .eq 2279, 3) := by decide +kernel
theorem dL_law_408 : decode cL_law 408 = .ok (.iconst 0, 1) := by decide +kernel
theorem dL_law_409 : decode cL_law 409 = .ok (.ireturn, 1) := by decide +kernel
theorem dL_law_410 : decode cL_law 410 = .ok (.aload_n 1, 1) := by decide +kernel
theorem dL_law_411 : decode cL_law 411 = .ok (.invokevirtual 128, 3) := by decide +kernel
theorem dL_law_414 : decode cL_law 414 = .ok (.aload_n 2, 1) := by decide +kernel
theorem dL_law_415 : decode cL_law 415 = .ok (.invokevirtual 131, 3) := by decide +kernel
theorem dL_law_418 : decode cL_law 418 = .ok (.if_icmp .eq 2266, 3) := by decide +kernel
theorem dL_law_421 : decode cL_law 421 = .ok (.iconst 0, 1) := by decide +kernel
theorem dL_law_422 : decode cL_law 422 = .ok (.ireturn, 1) := by decide +kernel
theorem dL_law_423 : decode cL_law 423 = .ok (.aload_n 1, 1) := by decide +kernel
theorem dL_law_424 : decode cL_law 424 = .ok (.invokevirtual 132, 3) := by decide +kernel
theorem dL_law_427 : decode cL_law 427 = .ok (.aload_n 2, 1) := by decide +kernel
theorem dL_law_428 : decode cL_law 428 = .ok (.invokevirtual 135, 3) := by decide +kernel
theorem dL_law_431 : decode cL_law 431 = .ok (.if_icmp .eq 2253, 3) := by decide +kernel
theorem dL_law_434 : decode cL_law 434 = .ok (.iconst 0, 1) := by decide +kernel
theorem dL_law_435 : decode cL_law 435 = .ok (.ireturn, 1) := by decide +kernel
theorem dL_law_436 : decode cL_law 436 = .ok (.aload_n 1, 1) := by decide +kernel
theorem dL_law_437 : decode cL_law 437 = .ok (.invokevirtual 136, 3) := by decide +kernel
theorem dL_law_440 : decode cL_law 440 = .ok (.aload_n 2, 1) := by decide +kernel
theorem dL_law_441 : decode cL_law 441 = .ok (.invokevirtual 139, 3) := by decide +kernel
theorem dL_law_444 : decode cL_law 444 = .ok (.if_icmp .eq 2240, 3) := by decide +kernel
theorem dL_law_447 : decode cL_law 447 = .ok (.iconst 0, 1) := by decide +kernel
theorem dL_law_448 : decode cL_law 448 = .ok (.ireturn, 1) := by decide +kernel
theorem dL_law_449 : decode cL_law 449 = .ok (.aload_n 1, 1) := by decide +kernel
theorem dL_law_450 : decode cL_law 450 = .ok (.invokevirtual 140, 3) := by decide +kernel
theorem dL_law_453 : decode cL_law 453 = .ok (.aload_n 2, 1) := by decide +kernel
theorem dL_law_454 : decode cL_law 454 = .ok (.invokevirtual 143, 3) := by decide +kernel
theorem dL_law_457 : decode cL_law 457 = .ok (.if_icmp .eq 2227, 3) := by decide +kernel
theorem dL_law_460 : decode cL_law 460 = .ok (.iconst 0, 1) := by decide +kernel
theorem dL_law_461 : decode cL_law 461 = .ok (.ireturn, 1) := by decide +kernel
theorem dL_law_462 : decode cL_law 462 = .ok (.aload_n 1, 1) := by decide +kernel
theorem dL_law_463 : decode cL_law 463 = .ok (.invokevirtual 144, 3) := by decide +kernel
theorem dL_law_466 : decode cL_law 466 = .ok (.aload_n 2, 1) := by decide +kernel
theorem dL_law_467 : decode cL_law 467 = .ok (.invokevirtual 147, 3) := by decide +kernel
theorem dL_law_470 : decode cL_law 470 = .ok (.if_icmp .eq 2214, 3) := by decide +kernel
theorem dL_law_473 : decode cL_law 473 = .ok (.iconst 0, 1) := by decide +kernel
theorem dL_law_474 : decode cL_law 474 = .ok (.ireturn, 1) := by decide +kernel
theorem dL_law_475 : decode cL_law 475 = .ok (.aload_n 1, 1) := by decide +kernel
theorem dL_law_476 : decode cL_law 476 = .ok (.invokevirtual 148, 3) := by decide +kernel
theorem dL_law_479 : decode cL_law 479 = .ok (.aload_n 2, 1) := by decide +kernel
theorem dL_law_480 : decode cL_law 480 = .ok (.invokevirtual 151, 3) := by decide +kernel
theorem dL_law_483 : decode cL_law 483 = .ok (.if_icmp .eq 2201, 3) := by decide +kernel
theorem dL_law_486 : decode cL_law 486 = .ok (.iconst 0, 1) := by decide +kernel
theorem dL_law_487 : decode cL_law 487 = .ok (.ireturn, 1) := by decide +kernel
theorem dL_law_488 : decode cL_law 488 = .ok (.aload_n 1, 1) := by decide +kernel
theorem dL_law_489 : decode cL_law 489 = .ok (.invokevirtual 152, 3) := by decide +kernel
theorem dL_law_492 : decode cL_law 492 = .ok (.aload_n 2, 1) := by decide +kernel
theorem dL_law_493 : decode cL_law 493 = .ok (.invokevirtual 155, 3) := by decide +kernel
theorem dL_law_496 : decode cL_law 496 = .ok (.if_icmp .eq 2188, 3) := by decide +kernel
theorem dL_law_499 : decode cL_law 499 = .ok (.iconst 0, 1) := by decide +kernel
theorem dL_law_500 : decode cL_law 500 = .ok (.ireturn, 1) := by decide +kernel
theorem dL_law_501 : decode cL_law 501 = .ok (.aload_n 1, 1) := by decide +kernel
theorem dL_law_502 : decode cL_law 502 = .ok (.invokevirtual 156, 3) := by decide +kernel
theorem dL_law_505 : decode cL_law 505 = .ok (.aload_n 2, 1) := by decide +kernel
theorem dL_law_506 : decode cL_law 506 = .ok (.invokevirtual 159, 3) := by decide +kernel
theorem dL_law_509 : decode cL_law 509 = .ok (.if_icmp .eq 2175, 3) := by decide +kernel
theorem dL_law_512 : decode cL_law 512 = .ok (.iconst 0, 1) := by decide +kernel
theorem dL_law_513 : decode cL_law 513 = .ok (.ireturn, 1) := by decide +kernel
theorem dL_law_514 : decode cL_law 514 = .ok (.aload_n 1, 1) := by decide +kernel
theorem dL_law_515 : decode cL_law 515 = .ok (.invokevirtual 160, 3) := by decide +kernel
theorem dL_law_518 : decode cL_law 518 = .ok (.aload_n 2, 1) := by decide +kernel
theorem dL_law_519 : decode cL_law 519 = .ok (.invokevirtual 163, 3) := by decide +kernel
theorem dL_law_522 : decode cL_law 522 = .ok (.if_icmp .eq 2162, 3) := by decide +kernel
theorem dL_law_525 : decode cL_law 525 = .ok (.iconst 0, 1) := by decide +kernel
theorem dL_law_526 : decode cL_law 526 = .ok (.ireturn, 1) := by decide +kernel
theorem dL_law_527 : decode cL_law 527 = .ok (.aload_n 1, 1) := by decide +kernel
theorem dL_law_528 : decode cL_law 528 = .ok (.aload_n 0, 1) := by decide +kernel
theorem dL_law_529 : decode cL_law 529 = .ok (.iload 5, 2) := by decide +kernel
theorem dL_law_531 : decode cL_law 531 = .ok (.iconst 1, 1) := by decide +kernel
theorem dL_law_532 : decode cL_law 532 = .ok (.iadd, 1) := by decide +kernel
theorem dL_law_533 : decode cL_law 533 = .ok (.iaload, 1) := by decide +kernel
theorem dL_law_534 : decode cL_law 534 = .ok (.aload_n 0, 1) := by decide +kernel
theorem dL_law_535 : decode cL_law 535 = .ok (.iload 5, 2) := by decide +kernel
theorem dL_law_537 : decode cL_law 537 = .ok (.iconst 2, 1) := by decide +kernel
theorem dL_law_538 : decode cL_law 538 = .ok (.iadd, 1) := by decide +kernel
theorem dL_law_539 : decode cL_law 539 = .ok (.iaload, 1) := by decide +kernel
theorem dL_law_540 : decode cL_law 540 = .ok (.aload_n 3, 1) := by decide +kernel
theorem dL_law_541 : decode cL_law 541 = .ok (.invokestatic 164, 3) := by decide +kernel
theorem dL_law_544 : decode cL_law 544 = .ok (.istore 6, 2) := by decide +kernel
theorem dL_law_546 : decode cL_law 546 = .ok (.aload_n 2, 1) := by decide +kernel
theorem dL_law_547 : decode cL_law 547 = .ok (.aload_n 0, 1) := by decide +kernel
theorem dL_law_548 : decode cL_law 548 = .ok (.iload 5, 2) := by decide +kernel
theorem dL_law_550 : decode cL_law 550 = .ok (.iconst 1, 1) := by decide +kernel
theorem dL_law_551 : decode cL_law 551 = .ok (.iadd, 1) := by decide +kernel
theorem dL_law_552 : decode cL_law 552 = .ok (.iaload, 1) := by decide +kernel
theorem dL_law_553 : decode cL_law 553 = .ok (.aload_n 0, 1) := by decide +kernel
theorem dL_law_554 : decode cL_law 554 = .ok (.iload 5, 2) := by decide +kernel
theorem dL_law_556 : decode cL_law 556 = .ok (.iconst 2, 1) := by decide +kernel
theorem dL_law_557 : decode cL_law 557 = .ok (.iadd, 1) := by decide +kernel
theorem dL_law_558 : decode cL_law 558 = .ok (.iaload, 1) := by decide +kernel
theorem dL_law_559 : decode cL_law 559 = .ok (.invokevirtual 169, 3) := by decide +kernel
theorem dL_law_562 : decode cL_law 562 = .ok (.istore 7, 2) := by decide +kernel
theorem dL_law_564 : decode cL_law 564 = .ok (.aload_n 2, 1) := by decide +kernel
theorem dL_law_565 : decode cL_law 565 = .ok (.invokevirtual 170, 3) := by decide +kernel
theorem dL_law_568 : decode cL_law 568 = .ok (.iload 6, 2) := by decide +kernel
theorem dL_law_570 : decode cL_law 570 = .ok (.if_icmp .eq 5, 3) := by decide +kernel
theorem dL_law_573 : decode cL_law 573 = .ok (.iconst 0, 1) := by decide +kernel
theorem dL_law_574 : decode cL_law 574 = .ok (.ireturn, 1) := by decide +kernel
theorem dL_law_575 : decode cL_law 575 = .ok (.iload 6, 2) := by decide +kernel
theorem dL_law_577 : decode cL_law 577 = .ok (.ifCond .ne 15, 3) := by decide +kernel
theorem dL_law_580 : decode cL_law 580 = .ok (.aload_n 3, 1) := by decide +kernel
theorem dL_law_581 : decode cL_law 581 = .ok (.iconst 0, 1) := by decide +kernel
theorem dL_law_582 : decode cL_law 582 = .ok (.laload, 1) := by decide +kernel
theorem dL_law_583 : decode cL_law 583 = .ok (.iload 7, 2) := by decide +kernel
theorem dL_law_585 : decode cL_law 585 = .ok (.i2l, 1) := by decide +kernel
theorem dL_law_586 : decode cL_law 586 = .ok (.lcmp, 1) := by decide +kernel
theorem dL_law_587 : decode cL_law 587 = .ok (.ifCond .eq 5, 3) := by decide +kernel
theorem dL_law_590 : decode cL_law 590 = .ok (.iconst 0, 1) := by decide +kernel
theorem dL_law_591 : decode cL_law 591 = .ok (.ireturn, 1) := by decide +kernel
theorem dL_law_592 : decode cL_law 592 = .ok (.goto 2092, 3) := by decide +kernel
theorem dL_law_595 : decode cL_law 595 = .ok (.aload_n 1, 1) := by decide +kernel
theorem dL_law_596 : decode cL_law 596 = .ok (.aload_n 0, 1) := by decide +kernel
theorem dL_law_597 : decode cL_law 597 = .ok (.iload 5, 2) := by decide +kernel
theorem dL_law_599 : decode cL_law 599 = .ok (.iconst 1, 1) := by decide +kernel
theorem dL_law_600 : decode cL_law 600 = .ok (.iadd, 1) := by decide +kernel
theorem dL_law_601 : decode cL_law 601 = .ok (.iaload, 1) := by decide +kernel
theorem dL_law_602 : decode cL_law 602 = .ok (.aload_n 0, 1) := by decide +kernel
theorem dL_law_603 : decode cL_law 603 = .ok (.iload 5, 2) := by decide +kernel
theorem dL_law_605 : decode cL_law 605 = .ok (.iconst 2, 1) := by decide +kernel
theorem dL_law_606 : decode cL_law 606 = .ok (.iadd, 1) := by decide +kernel
theorem dL_law_607 : decode cL_law 607 = .ok (.iaload, 1) := by decide +kernel
theorem dL_law_608 : decode cL_law 608 = .ok (.aload_n 3, 1) := by decide +kernel
theorem dL_law_609 : decode cL_law 609 = .ok (.invokestatic 173, 3) := by decide +kernel
theorem dL_law_612 : decode cL_law 612 = .ok (.istore 6, 2) := by decide +kernel
theorem dL_law_614 : decode cL_law 614 = .ok (.aload_n 2, 1) := by decide +kernel
theorem dL_law_615 : decode cL_law 615 = .ok (.aload_n 0, 1) := by decide +kernel
theorem dL_law_616 : decode cL_law 616 = .ok (.iload 5, 2) := by decide +kernel
theorem dL_law_618 : decode cL_law 618 = .ok (.iconst 1, 1) := by decide +kernel
theorem dL_law_619 : decode cL_law 619 = .ok (.iadd, 1) := by decide +kernel
theorem dL_law_620 : decode cL_law 620 = .ok (.iaload, 1) := by decide +kernel
theorem dL_law_621 : decode cL_law 621 = .ok (.aload_n 0, 1) := by decide +kernel
theorem dL_law_622 : decode cL_law 622 = .ok (.iload 5, 2) := by decide +kernel
theorem dL_law_624 : decode cL_law 624 = .ok (.iconst 2, 1) := by decide +kernel
theorem dL_law_625 : decode cL_law 625 = .ok (.iadd, 1) := by decide +kernel
theorem dL_law_626 : decode cL_law 626 = .ok (.iaload, 1) := by decide +kernel
theorem dL_law_627 : decode cL_law 627 = .ok (.invokevirtual 175, 3) := by decide +kernel
theorem dL_law_630 : decode cL_law 630 = .ok (.istore 7, 2) := by decide +kernel
theorem dL_law_632 : decode cL_law 632 = .ok (.aload_n 2, 1) := by decide +kernel
theorem dL_law_633 : decode cL_law 633 = .ok (.invokevirtual 170, 3) := by decide +kernel
theorem dL_law_636 : decode cL_law 636 = .ok (.iload 6, 2) := by decide +kernel
theorem dL_law_638 : decode cL_law 638 = .ok (.if_icmp .eq 5, 3) := by decide +kernel
theorem dL_law_641 : decode cL_law 641 = .ok (.iconst 0, 1) := by decide +kernel
theorem dL_law_642 : decode cL_law 642 = .ok (.ireturn, 1) := by decide +kernel
theorem dL_law_643 : decode cL_law 643 = .ok (.iload 6, 2) := by decide +kernel
theorem dL_law_645 : decode cL_law 645 = .ok (.ifCond .ne 15, 3) := by decide +kernel
theorem dL_law_648 : decode cL_law 648 = .ok (.aload_n 3, 1) := by decide +kernel
theorem dL_law_649 : decode cL_law 649 = .ok (.iconst 0, 1) := by decide +kernel
theorem dL_law_650 : decode cL_law 650 = .ok (.laload, 1) := by decide +kernel
theorem dL_law_651 : decode cL_law 651 = .ok (.iload 7, 2) := by decide +kernel
theorem dL_law_653 : decode cL_law 653 = .ok (.i2l, 1) := by decide +kernel
theorem dL_law_654 : decode cL_law 654 = .ok (.lcmp, 1) := by decide +kernel
theorem dL_law_655 : decode cL_law 655 = .ok (.ifCond .eq 5, 3) := by decide +kernel
theorem dL_law_658 : decode cL_law 658 = .ok (.iconst 0, 1) := by decide +kernel
theorem dL_law_659 : decode cL_law 659 = .ok (.ireturn, 1) := by decide +kernel
theorem dL_law_660 : decode cL_law 660 = .ok (.goto 2024, 3) := by decide +kernel
theorem dL_law_663 : decode cL_law 663 = .ok (.aload_n 1, 1) := by decide +kernel
theorem dL_law_664 : decode cL_law 664 = .ok (.aload_n 0, 1) := by decide +kernel
theorem dL_law_665 : decode cL_law 665 = .ok (.iload 5, 2) := by decide +kernel
theorem dL_law_667 : decode cL_law 667 = .ok (.iconst 1, 1) := by decide +kernel
theorem dL_law_668 : decode cL_law 668 = .ok (.iadd, 1) := by decide +kernel
theorem dL_law_669 : decode cL_law 669 = .ok (.iaload, 1) := by decide +kernel
theorem dL_law_670 : decode cL_law 670 = .ok (.aload_n 3, 1) := by decide +kernel
theorem dL_law_671 : decode cL_law 671 = .ok (.invokestatic 176, 3) := by decide +kernel
theorem dL_law_674 : decode cL_law 674 = .ok (.istore 6, 2) := by decide +kernel
theorem dL_law_676 : decode cL_law 676 = .ok (.aload_n 2, 1) := by decide +kernel
theorem dL_law_677 : decode cL_law 677 = .ok (.aload_n 0, 1) := by decide +kernel
theorem dL_law_678 : decode cL_law 678 = .ok (.iload 5, 2) := by decide +kernel
theorem dL_law_680 : decode cL_law 680 = .ok (.iconst 1, 1) := by decide +kernel
theorem dL_law_681 : decode cL_law 681 = .ok (.iadd, 1) := by decide +kernel
theorem dL_law_682 : decode cL_law 682 = .ok (.iaload, 1) := by decide +kernel
theorem dL_law_683 : decode cL_law 683 = .ok (.invokevirtual 179, 3) := by decide +kernel
theorem dL_law_686 : decode cL_law 686 = .ok (.istore 7, 2) := by decide +kernel
theorem dL_law_688 : decode cL_law 688 = .ok (.aload_n 2, 1) := by decide +kernel
theorem dL_law_689 : decode cL_law 689 = .ok (.invokevirtual 170, 3) := by decide +kernel
theorem dL_law_692 : decode cL_law 692 = .ok (.iload 6, 2) := by decide +kernel
theorem dL_law_694 : decode cL_law 694 = .ok (.if_icmp .eq 5, 3) := by decide +kernel
theorem dL_law_697 : decode cL_law 697 = .ok (.iconst 0, 1) := by decide +kernel
theorem dL_law_698 : decode cL_law 698 = .ok (.ireturn, 1) := by decide +kernel
theorem dL_law_699 : decode cL_law 699 = .ok (.iload 6, 2) := by decide +kernel
theorem dL_law_701 : decode cL_law 701 = .ok (.ifCond .ne 15, 3) := by decide +kernel
theorem dL_law_704 : decode cL_law 704 = .ok (.aload_n 3, 1) := by decide +kernel
theorem dL_law_705 : decode cL_law 705 = .ok (.iconst 0, 1) := by decide +kernel
theorem dL_law_706 : decode cL_law 706 = .ok (.laload, 1) := by decide +kernel
theorem dL_law_707 : decode cL_law 707 = .ok (.iload 7, 2) := by decide +kernel
theorem dL_law_709 : decode cL_law 709 = .ok (.i2l, 1) := by decide +kernel
theorem dL_law_710 : decode cL_law 710 = .ok (.lcmp, 1) := by decide +kernel
theorem dL_law_711 : decode cL_law 711 = .ok (.ifCond .eq 5, 3) := by decide +kernel
theorem dL_law_714 : decode cL_law 714 = .ok (.iconst 0, 1) := by decide +kernel
theorem dL_law_715 : decode cL_law 715 = .ok (.ireturn, 1) := by decide +kernel
theorem dL_law_716 : decode cL_law 716 = .ok (.goto 1968, 3) := by decide +kernel
theorem dL_law_719 : decode cL_law 719 = .ok (.aload_n 1, 1) := by decide +kernel
theorem dL_law_720 : decode cL_law 720 = .ok (.aload_n 0, 1) := by decide +kernel
theorem dL_law_721 : decode cL_law 721 = .ok (.iload 5, 2) := by decide +kernel
theorem dL_law_723 : decode cL_law 723 = .ok (.iconst 1, 1) := by decide +kernel
theorem dL_law_724 : decode cL_law 724 = .ok (.iadd, 1) := by decide +kernel
theorem dL_law_725 : decode cL_law 725 = .ok (.iaload, 1) := by decide +kernel
theorem dL_law_726 : decode cL_law 726 = .ok (.aload_n 3, 1) := by decide +kernel
theorem dL_law_727 : decode cL_law 727 = .ok (.invokestatic 180, 3) := by decide +kernel
theorem dL_law_730 : decode cL_law 730 = .ok (.istore 6, 2) := by decide +kernel
theorem dL_law_732 : decode cL_law 732 = .ok (.aload_n 2, 1) := by decide +kernel
theorem dL_law_733 : decode cL_law 733 = .ok (.aload_n 0, 1) := by decide +kernel
theorem dL_law_734 : decode cL_law 734 = .ok (.iload 5, 2) := by decide +kernel
theorem dL_law_736 : decode cL_law 736 = .ok (.iconst 1, 1) := by decide +kernel
theorem dL_law_737 : decode cL_law 737 = .ok (.iadd, 1) := by decide +kernel
theorem dL_law_738 : decode cL_law 738 = .ok (.iaload, 1) := by decide +kernel
theorem dL_law_739 : decode cL_law 739 = .ok (.invokevirtual 182, 3) := by decide +kernel
theorem dL_law_742 : decode cL_law 742 = .ok (.istore 7, 2) := by decide +kernel
theorem dL_law_744 : decode cL_law 744 = .ok (.aload_n 2, 1) := by decide +kernel
theorem dL_law_745 : decode cL_law 745 = .ok (.invokevirtual 170, 3) := by decide +kernel
theorem dL_law_748 : decode cL_law 748 = .ok (.iload 6, 2) := by decide +kernel
theorem dL_law_750 : decode cL_law 750 = .ok (.if_icmp .eq 5, 3) := by decide +kernel
theorem dL_law_753 : decode cL_law 753 = .ok (.iconst 0, 1) := by decide +kernel
theorem dL_law_754 : decode cL_law 754 = .ok (.ireturn, 1) := by decide +kernel
theorem dL_law_755 : decode cL_law 755 = .ok (.iload 6, 2) := by decide +kernel
theorem dL_law_757 : decode cL_law 757 = .ok (.ifCond .ne 22, 3) := by decide +kernel
theorem dL_law_760 : decode cL_law 760 = .ok (.aload_n 3, 1) := by decide +kernel
theorem dL_law_761 : decode cL_law 761 = .ok (.iconst 0, 1) := by decide +kernel
theorem dL_law_762 : decode cL_law 762 = .ok (.laload, 1) := by decide +kernel
theorem dL_law_763 : decode cL_law 763 = .ok (.iload 7, 2) := by decide +kernel
theorem dL_law_765 : decode cL_law 765 = .ok (.ifCond .eq 7, 3) := by decide +kernel
theorem dL_law_768 : decode cL_law 768 = .ok (.lconst 1, 1) := by decide +kernel
theorem dL_law_769 : decode cL_law 769 = .ok (.goto 4, 3) := by decide +kernel
theorem dL_law_772 : decode cL_law 772 = .ok (.lconst 0, 1) := by decide +kernel
theorem dL_law_773 : decode cL_law 773 = .ok (.lcmp, 1) := by decide +kernel
theorem dL_law_774 : decode cL_law 774 = .ok (.ifCond .eq 5, 3) := by decide +kernel
theorem dL_law_777 : decode cL_law 777 = .ok (.iconst 0, 1) := by decide +kernel
theorem dL_law_778 : decode cL_law 778 = .ok (.ireturn, 1) := by decide +kernel
theorem dL_law_779 : decode cL_law 779 = .ok (.goto 1905, 3) := by decide +kernel
theorem dL_law_782 : decode cL_law 782 = .ok (.aload_n 1, 1) := by decide +kernel
theorem dL_law_783 : decode cL_law 783 = .ok (.aload_n 0, 1) := by decide +kernel
theorem dL_law_784 : decode cL_law 784 = .ok (.iload 5, 2) := by decide +kernel
theorem dL_law_786 : decode cL_law 786 = .ok (.iconst 1, 1) := by decide +kernel
theorem dL_law_787 : decode cL_law 787 = .ok (.iadd, 1) := by decide +kernel
theorem dL_law_788 : decode cL_law 788 = .ok (.iaload, 1) := by decide +kernel
theorem dL_law_789 : decode cL_law 789 = .ok (.aload_n 3, 1) := by decide +kernel
theorem dL_law_790 : decode cL_law 790 = .ok (.invokestatic 183, 3) := by decide +kernel
theorem dL_law_793 : decode cL_law 793 = .ok (.istore 6, 2) := by decide +kernel
theorem dL_law_795 : decode cL_law 795 = .ok (.aload_n 2, 1) := by decide +kernel
theorem dL_law_796 : decode cL_law 796 = .ok (.aload_n 0, 1) := by decide +kernel
theorem dL_law_797 : decode cL_law 797 = .ok (.iload 5, 2) := by decide +kernel
theorem dL_law_799 : decode cL_law 799 = .ok (.iconst 1, 1) := by decide +kernel
theorem dL_law_800 : decode cL_law 800 = .ok (.iadd, 1) := by decide +kernel
theorem dL_law_801 : decode cL_law 801 = .ok (.iaload, 1) := by decide +kernel
theorem dL_law_802 : decode cL_law 802 = .ok (.invokevirtual 185, 3) := by decide +kernel
theorem dL_law_805 : decode cL_law 805 = .ok (.istore 7, 2) := by decide +kernel
theorem dL_law_807 : decode cL_law 807 = .ok (.aload_n 2, 1) := by decide +kernel
theorem dL_law_808 : decode cL_law 808 = .ok (.invokevirtual 170, 3) := by decide +kernel
theorem dL_law_811 : decode cL_law 811 = .ok (.iload 6, 2) := by decide +kernel
theorem dL_law_813 : decode cL_law 813 = .ok (.if_icmp .eq 5, 3) := by decide +kernel
theorem dL_law_816 : decode cL_law 816 = .ok (.iconst 0, 1) := by decide +kernel
theorem dL_law_817 : decode cL_law 817 = .ok (.ireturn, 1) := by decide +kernel
theorem dL_law_818 : decode cL_law 818 = .ok (.iload 6, 2) := by decide +kernel
theorem dL_law_820 : decode cL_law 820 = .ok (.ifCond .ne 15, 3) := by decide +kernel
theorem dL_law_823 : decode cL_law 823 = .ok (.aload_n 3, 1) := by decide +kernel
theorem dL_law_824 : decode cL_law 824 = .ok (.iconst 0, 1) := by decide +kernel
theorem dL_law_825 : decode cL_law 825 = .ok (.laload, 1) := by decide +kernel
theorem dL_law_826 : decode cL_law 826 = .ok (.iload 7, 2) := by decide +kernel
theorem dL_law_828 : decode cL_law 828 = .ok (.i2l, 1) := by decide +kernel
theorem dL_law_829 : decode cL_law 829 = .ok (.lcmp, 1) := by decide +kernel
theorem dL_law_830 : decode cL_law 830 = .ok (.ifCond .eq 5, 3) := by decide +kernel
theorem dL_law_833 : decode cL_law 833 = .ok (.iconst 0, 1) := by decide +kernel
theorem dL_law_834 : decode cL_law 834 = .ok (.ireturn, 1) := by decide +kernel
theorem dL_law_835 : decode cL_law 835 = .ok (.goto 1849, 3) := by decide +kernel
theorem dL_law_838 : decode cL_law 838 = .ok (.aload_n 1, 1) := by decide +kernel
theorem dL_law_839 : decode cL_law 839 = .ok (.aload_n 0, 1) := by decide +kernel
theorem dL_law_840 : decode cL_law 840 = .ok (.iload 5, 2) := by decide +kernel
theorem dL_law_842 : decode cL_law 842 = .ok (.iconst 1, 1) := by decide +kernel
theorem dL_law_843 : decode cL_law 843 = .ok (.iadd, 1) := by decide +kernel
theorem dL_law_844 : decode cL_law 844 = .ok (.iaload, 1) := by decide +kernel
theorem dL_law_845 : decode cL_law 845 = .ok (.aload_n 3, 1) := by decide +kernel
theorem dL_law_846 : decode cL_law 846 = .ok (.invokestatic 186, 3) := by decide +kernel
theorem dL_law_849 : decode cL_law 849 = .ok (.istore 6, 2) := by decide +kernel
theorem dL_law_851 : decode cL_law 851 = .ok (.aload_n 2, 1) := by decide +kernel
theorem dL_law_852 : decode cL_law 852 = .ok (.aload_n 0, 1) := by decide +kernel
theorem dL_law_853 : decode cL_law 853 = .ok (.iload 5, 2) := by decide +kernel
theorem dL_law_855 : decode cL_law 855 = .ok (.iconst 1, 1) := by decide +kernel
theorem dL_law_856 : decode cL_law 856 = .ok (.iadd, 1) := by decide +kernel
theorem dL_law_857 : decode cL_law 857 = .ok (.iaload, 1) := by decide +kernel
theorem dL_law_858 : decode cL_law 858 = .ok (.invokevirtual 188, 3) := by decide +kernel
theorem dL_law_861 : decode cL_law 861 = .ok (.istore 7, 2) := by decide +kernel
theorem dL_law_863 : decode cL_law 863 = .ok (.aload_n 2, 1) := by decide +kernel
theorem dL_law_864 : decode cL_law 864 = .ok (.invokevirtual 170, 3) := by decide +kernel
theorem dL_law_867 : decode cL_law 867 = .ok (.iload 6, 2) := by decide +kernel
theorem dL_law_869 : decode cL_law 869 = .ok (.if_icmp .eq 5, 3) := by decide +kernel
theorem dL_law_872 : decode cL_law 872 = .ok (.iconst 0, 1) := by decide +kernel
theorem dL_law_873 : decode cL_law 873 = .ok (.ireturn, 1) := by decide +kernel
theorem dL_law_874 : decode cL_law 874 = .ok (.iload 6, 2) := by decide +kernel
theorem dL_law_876 : decode cL_law 876 = .ok (.ifCond .ne 15, 3) := by decide +kernel
theorem dL_law_879 : decode cL_law 879 = .ok (.aload_n 3, 1) := by decide +kernel
theorem dL_law_880 : decode cL_law 880 = .ok (.iconst 0, 1) := by decide +kernel
theorem dL_law_881 : decode cL_law 881 = .ok (.laload, 1) := by decide +kernel
theorem dL_law_882 : decode cL_law 882 = .ok (.iload 7, 2) := by decide +kernel
theorem dL_law_884 : decode cL_law 884 = .ok (.i2l, 1) := by decide +kernel
theorem dL_law_885 : decode cL_law 885 = .ok (.lcmp, 1) := by decide +kernel
theorem dL_law_886 : decode cL_law 886 = .ok (.ifCond .eq 5, 3) := by decide +kernel
theorem dL_law_889 : decode cL_law 889 = .ok (.iconst 0, 1) := by decide +kernel
theorem dL_law_890 : decode cL_law 890 = .ok (.ireturn, 1) := by decide +kernel
theorem dL_law_891 : decode cL_law 891 = .ok (.goto 1793, 3) := by decide +kernel
theorem dL_law_894 : decode cL_law 894 = .ok (.aload_n 1, 1) := by decide +kernel
theorem dL_law_895 : decode cL_law 895 = .ok (.aload_n 0, 1) := by decide +kernel
theorem dL_law_896 : decode cL_law 896 = .ok (.iload 5, 2) := by decide +kernel
theorem dL_law_898 : decode cL_law 898 = .ok (.iconst 1, 1) := by decide +kernel
theorem dL_law_899 : decode cL_law 899 = .ok (.iadd, 1) := by decide +kernel
theorem dL_law_900 : decode cL_law 900 = .ok (.iaload, 1) := by decide +kernel
theorem dL_law_901 : decode cL_law 901 = .ok (.aload_n 3, 1) := by decide +kernel
theorem dL_law_902 : decode cL_law 902 = .ok (.invokestatic 189, 3) := by decide +kernel
theorem dL_law_905 : decode cL_law 905 = .ok (.istore 6, 2) := by decide +kernel
theorem dL_law_907 : decode cL_law 907 = .ok (.aload_n 2, 1) := by decide +kernel
theorem dL_law_908 : decode cL_law 908 = .ok (.aload_n 0, 1) := by decide +kernel
theorem dL_law_909 : decode cL_law 909 = .ok (.iload 5, 2) := by decide +kernel
theorem dL_law_911 : decode cL_law 911 = .ok (.iconst 1, 1) := by decide +kernel
theorem dL_law_912 : decode cL_law 912 = .ok (.iadd, 1) := by decide +kernel
theorem dL_law_913 : decode cL_law 913 = .ok (.iaload, 1) := by decide +kernel
theorem dL_law_914 : decode cL_law 914 = .ok (.invokevirtual 191, 3) := by decide +kernel
theorem dL_law_917 : decode cL_law 917 = .ok (.istore 7, 2) := by decide +kernel
theorem dL_law_919 : decode cL_law 919 = .ok (.aload_n 2, 1) := by decide +kernel
theorem dL_law_920 : decode cL_law 920 = .ok (.invokevirtual 170, 3) := by decide +kernel
theorem dL_law_923 : decode cL_law 923 = .ok (.iload 6, 2) := by decide +kernel
theorem dL_law_925 : decode cL_law 925 = .ok (.if_icmp .eq 5, 3) := by decide +kernel
theorem dL_law_928 : decode cL_law 928 = .ok (.iconst 0, 1) := by decide +kernel
theorem dL_law_929 : decode cL_law 929 = .ok (.ireturn, 1) := by decide +kernel
theorem dL_law_930 : decode cL_law 930 = .ok (.iload 6, 2) := by decide +kernel
theorem dL_law_932 : decode cL_law 932 = .ok (.ifCond .ne 15, 3) := by decide +kernel
theorem dL_law_935 : decode cL_law 935 = .ok (.aload_n 3, 1) := by decide +kernel
theorem dL_law_936 : decode cL_law 936 = .ok (.iconst 0, 1) := by decide +kernel
theorem dL_law_937 : decode cL_law 937 = .ok (.laload, 1) := by decide +kernel
theorem dL_law_938 : decode cL_law 938 = .ok (.iload 7, 2) := by decide +kernel
theorem dL_law_940 : decode cL_law 940 = .ok (.i2l, 1) := by decide +kernel
theorem dL_law_941 : decode cL_law 941 = .ok (.lcmp, 1) := by decide +kernel
theorem dL_law_942 : decode cL_law 942 = .ok (.ifCond .eq 5, 3) := by decide +kernel
theorem dL_law_945 : decode cL_law 945 = .ok (.iconst 0, 1) := by decide +kernel
theorem dL_law_946 : decode cL_law 946 = .ok (.ireturn, 1) := by decide +kernel
theorem dL_law_947 : decode cL_law 947 = .ok (.goto 1737, 3) := by decide +kernel
theorem dL_law_950 : decode cL_law 950 = .ok (.aload_n 1, 1) := by decide +kernel
theorem dL_law_951 : decode cL_law 951 = .ok (.aload_n 0, 1) := by decide +kernel
theorem dL_law_952 : decode cL_law 952 = .ok (.iload 5, 2) := by decide +kernel
theorem dL_law_954 : decode cL_law 954 = .ok (.iconst 1, 1) := by decide +kernel
theorem dL_law_955 : decode cL_law 955 = .ok (.iadd, 1) := by decide +kernel
theorem dL_law_956 : decode cL_law 956 = .ok (.iaload, 1) := by decide +kernel
theorem dL_law_957 : decode cL_law 957 = .ok (.aload_n 3, 1) := by decide +kernel
theorem dL_law_958 : decode cL_law 958 = .ok (.invokestatic 192, 3) := by decide +kernel
theorem dL_law_961 : decode cL_law 961 = .ok (.istore 6, 2) := by decide +kernel
theorem dL_law_963 : decode cL_law 963 = .ok (.aload_n 2, 1) := by decide +kernel
theorem dL_law_964 : decode cL_law 964 = .ok (.aload_n 0, 1) := by decide +kernel
theorem dL_law_965 : decode cL_law 965 = .ok (.iload 5, 2) := by decide +kernel
theorem dL_law_967 : decode cL_law 967 = .ok (.iconst 1, 1) := by decide +kernel
theorem dL_law_968 : decode cL_law 968 = .ok (.iadd, 1) := by decide +kernel
theorem dL_law_969 : decode cL_law 969 = .ok (.iaload, 1) := by decide +kernel
theorem dL_law_970 : decode cL_law 970 = .ok (.invokevirtual 194, 3) := by decide +kernel
theorem dL_law_973 : decode cL_law 973 = .ok (.istore 7, 2) := by decide +kernel
theorem dL_law_975 : decode cL_law 975 = .ok (.aload_n 2, 1) := by decide +kernel
theorem dL_law_976 : decode cL_law 976 = .ok (.invokevirtual 170, 3) := by decide +kernel
theorem dL_law_979 : decode cL_law 979 = .ok (.iload 6, 2) := by decide +kernel
theorem dL_law_981 : decode cL_law 981 = .ok (.if_icmp .eq 5, 3) := by decide +kernel
theorem dL_law_984 : decode cL_law 984 = .ok (.iconst 0, 1) := by decide +kernel
theorem dL_law_985 : decode cL_law 985 = .ok (.ireturn, 1) := by decide +kernel
theorem dL_law_986 : decode cL_law 986 = .ok (.iload 6, 2) := by decide +kernel
theorem dL_law_988 : decode cL_law 988 = .ok (.ifCond .ne 15, 3) := by decide +kernel
theorem dL_law_991 : decode cL_law 991 = .ok (.aload_n 3, 1) := by decide +kernel
theorem dL_law_992 : decode cL_law 992 = .ok (.iconst 0, 1) := by decide +kernel
theorem dL_law_993 : decode cL_law 993 = .ok (.laload, 1) := by decide +kernel
theorem dL_law_994 : decode cL_law 994 = .ok (.iload 7, 2) := by decide +kernel
theorem dL_law_996 : decode cL_law 996 = .ok (.i2l, 1) := by decide +kernel
theorem dL_law_997 : decode cL_law 997 = .ok (.lcmp, 1) := by decide +kernel
theorem dL_law_998 : decode cL_law 998 = .ok (.ifCond .eq 5, 3) := by decide +kernel
theorem dL_law_1001 : decode cL_law 1001 = .ok (.iconst 0, 1) := by decide +kernel
theorem dL_law_1002 : decode cL_law 1002 = .ok (.ireturn, 1) := by decide +kernel
theorem dL_law_1003 : decode cL_law 1003 = .ok (.goto 1681, 3) := by decide +kernel
theorem dL_law_1006 : decode cL_law 1006 = .ok (.aload_n 1, 1) := by decide +kernel
theorem dL_law_1007 : decode cL_law 1007 = .ok (.aload_n 0, 1) := by decide +kernel
theorem dL_law_1008 : decode cL_law 1008 = .ok (.iload 5, 2) := by decide +kernel
theorem dL_law_1010 : decode cL_law 1010 = .ok (.iconst 1, 1) := by decide +kernel
theorem dL_law_1011 : decode cL_law 1011 = .ok (.iadd, 1) := by decide +kernel
theorem dL_law_1012 : decode cL_law 1012 = .ok (.iaload, 1) := by decide +kernel
theorem dL_law_1013 : decode cL_law 1013 = .ok (.aload_n 3, 1) := by decide +kernel
theorem dL_law_1014 : decode cL_law 1014 = .ok (.invokestatic 195, 3) := by decide +kernel
theorem dL_law_1017 : decode cL_law 1017 = .ok (.istore 6, 2) := by decide +kernel
theorem dL_law_1019 : decode cL_law 1019 = .ok (.aload_n 2, 1) := by decide +kernel
theorem dL_law_1020 : decode cL_law 1020 = .ok (.aload_n 0, 1) := by decide +kernel
theorem dL_law_1021 : decode cL_law 1021 = .ok (.iload 5, 2) := by decide +kernel
theorem dL_law_1023 : decode cL_law 1023 = .ok (.iconst 1, 1) := by decide +kernel
theorem dL_law_1024 : decode cL_law 1024 = .ok (.iadd, 1) := by decide +kernel
theorem dL_law_1025 : decode cL_law 1025 = .ok (.iaload, 1) := by decide +kernel
theorem dL_law_1026 : decode cL_law 1026 = .ok (.invokevirtual 197, 3) := by decide +kernel
theorem dL_law_1029 : decode cL_law 1029 = .ok (.istore 7, 2) := by decide +kernel
theorem dL_law_1031 : decode cL_law 1031 = .ok (.aload_n 2, 1) := by decide +kernel
theorem dL_law_1032 : decode cL_law 1032 = .ok (.invokevirtual 170, 3) := by decide +kernel
theorem dL_law_1035 : decode cL_law 1035 = .ok (.iload 6, 2) := by decide +kernel
theorem dL_law_1037 : decode cL_law 1037 = .ok (.if_icmp .eq 5, 3) := by decide +kernel
theorem dL_law_1040 : decode cL_law 1040 = .ok (.iconst 0, 1) := by decide +kernel
theorem dL_law_1041 : decode cL_law 1041 = .ok (.ireturn, 1) := by decide +kernel
theorem dL_law_1042 : decode cL_law 1042 = .ok (.iload 6, 2) := by decide +kernel
theorem dL_law_1044 : decode cL_law 1044 = .ok (.ifCond .ne 15, 3) := by decide +kernel
theorem dL_law_1047 : decode cL_law 1047 = .ok (.aload_n 3, 1) := by decide +kernel
theorem dL_law_1048 : decode cL_law 1048 = .ok (.iconst 0, 1) := by decide +kernel
theorem dL_law_1049 : decode cL_law 1049 = .ok (.laload, 1) := by decide +kernel
theorem dL_law_1050 : decode cL_law 1050 = .ok (.iload 7, 2) := by decide +kernel
theorem dL_law_1052 : decode cL_law 1052 = .ok (.i2l, 1) := by decide +kernel
theorem dL_law_1053 : decode cL_law 1053 = .ok (.lcmp, 1) := by decide +kernel
theorem dL_law_1054 : decode cL_law 1054 = .ok (.ifCond .eq 5, 3) := by decide +kernel
theorem dL_law_1057 : decode cL_law 1057 = .ok (.iconst 0, 1) := by decide +kernel
theorem dL_law_1058 : decode cL_law 1058 = .ok (.ireturn, 1) := by decide +kernel
theorem dL_law_1059 : decode cL_law 1059 = .ok (.goto 1625, 3) := by decide +kernel
theorem dL_law_1062 : decode cL_law 1062 = .ok (.aload_n 1, 1) := by decide +kernel
theorem dL_law_1063 : decode cL_law 1063 = .ok (.aload_n 0, 1) := by decide +kernel
theorem dL_law_1064 : decode cL_law 1064 = .ok (.iload 5, 2) := by decide +kernel
theorem dL_law_1066 : decode cL_law 1066 = .ok (.iconst 1, 1) := by decide +kernel
theorem dL_law_1067 : decode cL_law 1067 = .ok (.iadd, 1) := by decide +kernel
theorem dL_law_1068 : decode cL_law 1068 = .ok (.iaload, 1) := by decide +kernel
theorem dL_law_1069 : decode cL_law 1069 = .ok (.aload_n 3, 1) := by decide +kernel
theorem dL_law_1070 : decode cL_law 1070 = .ok (.invokestatic 198, 3) := by decide +kernel
theorem dL_law_1073 : decode cL_law 1073 = .ok (.istore 6, 2) := by decide +kernel
theorem dL_law_1075 : decode cL_law 1075 = .ok (.aload_n 2, 1) := by decide +kernel
theorem dL_law_1076 : decode cL_law 1076 = .ok (.aload_n 0, 1) := by decide +kernel
theorem dL_law_1077 : decode cL_law 1077 = .ok (.iload 5, 2) := by decide +kernel
theorem dL_law_1079 : decode cL_law 1079 = .ok (.iconst 1, 1) := by decide +kernel
theorem dL_law_1080 : decode cL_law 1080 = .ok (.iadd, 1) := by decide +kernel
theorem dL_law_1081 : decode cL_law 1081 = .ok (.iaload, 1) := by decide +kernel
theorem dL_law_1082 : decode cL_law 1082 = .ok (.invokevirtual 200, 3) := by decide +kernel
theorem dL_law_1085 : decode cL_law 1085 = .ok (.istore 7, 2) := by decide +kernel
theorem dL_law_1087 : decode cL_law 1087 = .ok (.aload_n 2, 1) := by decide +kernel
theorem dL_law_1088 : decode cL_law 1088 = .ok (.invokevirtual 170, 3) := by decide +kernel
theorem dL_law_1091 : decode cL_law 1091 = .ok (.iload 6, 2) := by decide +kernel
theorem dL_law_1093 : decode cL_law 1093 = .ok (.if_icmp .eq 5, 3) := by decide +kernel
theorem dL_law_1096 : decode cL_law 1096 = .ok (.iconst 0, 1) := by decide +kernel
theorem dL_law_1097 : decode cL_law 1097 = .ok (.ireturn, 1) := by decide +kernel
theorem dL_law_1098 : decode cL_law 1098 = .ok (.iload 6, 2) := by decide +kernel
theorem dL_law_1100 : decode cL_law 1100 = .ok (.ifCond .ne 15, 3) := by decide +kernel
theorem dL_law_1103 : decode cL_law 1103 = .ok (.aload_n 3, 1) := by decide +kernel
theorem dL_law_1104 : decode cL_law 1104 = .ok (.iconst 0, 1) := by decide +kernel
theorem dL_law_1105 : decode cL_law 1105 = .ok (.laload, 1) := by decide +kernel
theorem dL_law_1106 : decode cL_law 1106 = .ok (.iload 7, 2) := by decide +kernel
theorem dL_law_1108 : decode cL_law 1108 = .ok (.i2l, 1) := by decide +kernel
theorem dL_law_1109 : decode cL_law 1109 = .ok (.lcmp, 1) := by decide +kernel
theorem dL_law_1110 : decode cL_law 1110 = .ok (.ifCond .eq 5, 3) := by decide +kernel
theorem dL_law_1113 : decode cL_law 1113 = .ok (.iconst 0, 1) := by decide +kernel
theorem dL_law_1114 : decode cL_law 1114 = .ok (.ireturn, 1) := by decide +kernel
theorem dL_law_1115 : decode cL_law 1115 = .ok (.goto 1569, 3) := by decide +kernel
theorem dL_law_1118 : decode cL_law 1118 = .ok (.aload_n 1, 1) := by decide +kernel
theorem dL_law_1119 : decode cL_law 1119 = .ok (.aload_n 0, 1) := by decide +kernel
theorem dL_law_1120 : decode cL_law 1120 = .ok (.iload 5, 2) := by decide +kernel
theorem dL_law_1122 : decode cL_law 1122 = .ok (.iconst 1, 1) := by decide +kernel
theorem dL_law_1123 : decode cL_law 1123 = .ok (.iadd, 1) := by decide +kernel
theorem dL_law_1124 : decode cL_law 1124 = .ok (.iaload, 1) := by decide +kernel
theorem dL_law_1125 : decode cL_law 1125 = .ok (.aload_n 3, 1) := by decide +kernel
theorem dL_law_1126 : decode cL_law 1126 = .ok (.invokestatic 201, 3) := by decide +kernel
theorem dL_law_1129 : decode cL_law 1129 = .ok (.istore 6, 2) := by decide +kernel
theorem dL_law_1131 : decode cL_law 1131 = .ok (.aload_n 2, 1) := by decide +kernel
theorem dL_law_1132 : decode cL_law 1132 = .ok (.aload_n 0, 1) := by decide +kernel
theorem dL_law_1133 : decode cL_law 1133 = .ok (.iload 5, 2) := by decide +kernel
theorem dL_law_1135 : decode cL_law 1135 = .ok (.iconst 1, 1) := by decide +kernel
theorem dL_law_1136 : decode cL_law 1136 = .ok (.iadd, 1) := by decide +kernel
theorem dL_law_1137 : decode cL_law 1137 = .ok (.iaload, 1) := by decide +kernel
theorem dL_law_1138 : decode cL_law 1138 = .ok (.invokevirtual 203, 3) := by decide +kernel
theorem dL_law_1141 : decode cL_law 1141 = .ok (.istore 7, 2) := by decide +kernel
theorem dL_law_1143 : decode cL_law 1143 = .ok (.aload_n 2, 1) := by decide +kernel
theorem dL_law_1144 : decode cL_law 1144 = .ok (.invokevirtual 170, 3) := by decide +kernel
theorem dL_law_1147 : decode cL_law 1147 = .ok (.iload 6, 2) := by decide +kernel
theorem dL_law_1149 : decode cL_law 1149 = .ok (.if_icmp .eq 5, 3) := by decide +kernel
theorem dL_law_1152 : decode cL_law 1152 = .ok (.iconst 0, 1) := by decide +kernel
theorem dL_law_1153 : decode cL_law 1153 = .ok (.ireturn, 1) := by decide +kernel
theorem dL_law_1154 : decode cL_law 1154 = .ok (.iload 6, 2) := by decide +kernel
theorem dL_law_1156 : decode cL_law 1156 = .ok (.ifCond .ne 22, 3) := by decide +kernel
theorem dL_law_1159 : decode cL_law 1159 = .ok (.aload_n 3, 1) := by decide +kernel
theorem dL_law_1160 : decode cL_law 1160 = .ok (.iconst 0, 1) := by decide +kernel
theorem dL_law_1161 : decode cL_law 1161 = .ok (.laload, 1) := by decide +kernel
theorem dL_law_1162 : decode cL_law 1162 = .ok (.iload 7, 2) := by decide +kernel
theorem dL_law_1164 : decode cL_law 1164 = .ok (.ifCond .eq 7, 3) := by decide +kernel
theorem dL_law_1167 : decode cL_law 1167 = .ok (.lconst 1, 1) := by decide +kernel
theorem dL_law_1168 : decode cL_law 1168 = .ok (.goto 4, 3) := by decide +kernel
theorem dL_law_1171 : decode cL_law 1171 = .ok (.lconst 0, 1) := by decide +kernel
theorem dL_law_1172 : decode cL_law 1172 = .ok (.lcmp, 1) := by decide +kernel
theorem dL_law_1173 : decode cL_law 1173 = .ok (.ifCond .eq 5, 3) := by decide +kernel
theorem dL_law_1176 : decode cL_law 1176 = .ok (.iconst 0, 1) := by decide +kernel
theorem dL_law_1177 : decode cL_law 1177 = .ok (.ireturn, 1) := by decide +kernel
theorem dL_law_1178 : decode cL_law 1178 = .ok (.goto 1506, 3) := by decide +kernel
theorem dL_law_1181 : decode cL_law 1181 = .ok (.aload_n 1, 1) := by decide +kernel
theorem dL_law_1182 : decode cL_law 1182 = .ok (.aload_n 0, 1) := by decide +kernel
theorem dL_law_1183 : decode cL_law 1183 = .ok (.iload 5, 2) := by decide +kernel
theorem dL_law_1185 : decode cL_law 1185 = .ok (.iconst 1, 1) := by decide +kernel
theorem dL_law_1186 : decode cL_law 1186 = .ok (.iadd, 1) := by decide +kernel
theorem dL_law_1187 : decode cL_law 1187 = .ok (.iaload, 1) := by decide +kernel
theorem dL_law_1188 : decode cL_law 1188 = .ok (.aload_n 3, 1) := by decide +kernel
theorem dL_law_1189 : decode cL_law 1189 = .ok (.invokestatic 204, 3) := by decide +kernel
theorem dL_law_1192 : decode cL_law 1192 = .ok (.istore 6, 2) := by decide +kernel
theorem dL_law_1194 : decode cL_law 1194 = .ok (.aload_n 2, 1) := by decide +kernel
theorem dL_law_1195 : decode cL_law 1195 = .ok (.aload_n 0, 1) := by decide +kernel
theorem dL_law_1196 : decode cL_law 1196 = .ok (.iload 5, 2) := by decide +kernel
theorem dL_law_1198 : decode cL_law 1198 = .ok (.iconst 1, 1) := by decide +kernel
theorem dL_law_1199 : decode cL_law 1199 = .ok (.iadd, 1) := by decide +kernel
theorem dL_law_1200 : decode cL_law 1200 = .ok (.iaload, 1) := by decide +kernel
theorem dL_law_1201 : decode cL_law 1201 = .ok (.invokevirtual 206, 3) := by decide +kernel
theorem dL_law_1204 : decode cL_law 1204 = .ok (.istore 7, 2) := by decide +kernel
theorem dL_law_1206 : decode cL_law 1206 = .ok (.aload_n 2, 1) := by decide +kernel
theorem dL_law_1207 : decode cL_law 1207 = .ok (.invokevirtual 170, 3) := by decide +kernel
theorem dL_law_1210 : decode cL_law 1210 = .ok (.iload 6, 2) := by decide +kernel
theorem dL_law_1212 : decode cL_law 1212 = .ok (.if_icmp .eq 5, 3) := by decide +kernel
theorem dL_law_1215 : decode cL_law 1215 = .ok (.iconst 0, 1) := by decide +kernel
theorem dL_law_1216 : decode cL_law 1216 = .ok (.ireturn, 1) := by decide +kernel
theorem dL_law_1217 : decode cL_law 1217 = .ok (.iload 6, 2) := by decide +kernel
theorem dL_law_1219 : decode cL_law 1219 = .ok (.ifCond .ne 15, 3) := by decide +kernel
theorem dL_law_1222 : decode cL_law 1222 = .ok (.aload_n 3, 1) := by decide +kernel
theorem dL_law_1223 : decode cL_law 1223 = .ok (.iconst 0, 1) := by decide +kernel
theorem dL_law_1224 : decode cL_law 1224 = .ok (.laload, 1) := by decide +kernel
theorem dL_law_1225 : decode cL_law 1225 = .ok (.iload 7, 2) := by decide +kernel
theorem dL_law_1227 : decode cL_law 1227 = .ok (.i2l, 1) := by decide +kernel
theorem dL_law_1228 : decode cL_law 1228 = .ok (.lcmp, 1) := by decide +kernel
theorem dL_law_1229 : decode cL_law 1229 = .ok (.ifCond .eq 5, 3) := by decide +kernel
theorem dL_law_1232 : decode cL_law 1232 = .ok (.iconst 0, 1) := by decide +kernel
theorem dL_law_1233 : decode cL_law 1233 = .ok (.ireturn, 1) := by decide +kernel
theorem dL_law_1234 : decode cL_law 1234 = .ok (.goto 1450, 3) := by decide +kernel
theorem dL_law_1237 : decode cL_law 1237 = .ok (.aload_n 1, 1) := by decide +kernel
theorem dL_law_1238 : decode cL_law 1238 = .ok (.invokevirtual 207, 3) := by decide +kernel
theorem dL_law_1241 : decode cL_law 1241 = .ok (.aload_n 2, 1) := by decide +kernel
theorem dL_law_1242 : decode cL_law 1242 = .ok (.invokevirtual 210, 3) := by decide +kernel
theorem dL_law_1245 : decode cL_law 1245 = .ok (.if_icmp .eq 1439, 3) := by decide +kernel
theorem dL_law_1248 : decode cL_law 1248 = .ok (.iconst 0, 1) := by decide +kernel
theorem dL_law_1249 : decode cL_law 1249 = .ok (.ireturn, 1) := by decide +kernel
theorem dL_law_1250 : decode cL_law 1250 = .ok (.aload_n 1, 1) := by decide +kernel
theorem dL_law_1251 : decode cL_law 1251 = .ok (.invokevirtual 211, 3) := by decide +kernel
theorem dL_law_1254 : decode cL_law 1254 = .ok (.aload_n 2, 1) := by decide +kernel
theorem dL_law_1255 : decode cL_law 1255 = .ok (.invokevirtual 214, 3) := by decide +kernel
theorem dL_law_1258 : decode cL_law 1258 = .ok (.if_icmp .eq 1426, 3) := by decide +kernel
theorem dL_law_1261 : decode cL_law 1261 = .ok (.iconst 0, 1) := by decide +kernel
theorem dL_law_1262 : decode cL_law 1262 = .ok (.ireturn, 1) := by decide +kernel
theorem dL_law_1263 : decode cL_law 1263 = .ok (.aload_n 1, 1) := by decide +kernel
theorem dL_law_1264 : decode cL_law 1264 = .ok (.invokevirtual 215, 3) := by decide +kernel
theorem dL_law_1267 : decode cL_law 1267 = .ok (.aload_n 2, 1) := by decide +kernel
theorem dL_law_1268 : decode cL_law 1268 = .ok (.invokevirtual 218, 3) := by decide +kernel
theorem dL_law_1271 : decode cL_law 1271 = .ok (.if_icmp .eq 1413, 3) := by decide +kernel
theorem dL_law_1274 : decode cL_law 1274 = .ok (.iconst 0, 1) := by decide +kernel
theorem dL_law_1275 : decode cL_law 1275 = .ok (.ireturn, 1) := by decide +kernel
theorem dL_law_1276 : decode cL_law 1276 = .ok (.aload_n 1, 1) := by decide +kernel
theorem dL_law_1277 : decode cL_law 1277 = .ok (.aload_n 0, 1) := by decide +kernel
theorem dL_law_1278 : decode cL_law 1278 = .ok (.iload 5, 2) := by decide +kernel
theorem dL_law_1280 : decode cL_law 1280 = .ok (.iconst 1, 1) := by decide +kernel
theorem dL_law_1281 : decode cL_law 1281 = .ok (.iadd, 1) := by decide +kernel
theorem dL_law_1282 : decode cL_law 1282 = .ok (.iaload, 1) := by decide +kernel
theorem dL_law_1283 : decode cL_law 1283 = .ok (.aload_n 3, 1) := by decide +kernel
theorem dL_law_1284 : decode cL_law 1284 = .ok (.invokestatic 219, 3) := by decide +kernel
theorem dL_law_1287 : decode cL_law 1287 = .ok (.istore 6, 2) := by decide +kernel
theorem dL_law_1289 : decode cL_law 1289 = .ok (.aload_n 2, 1) := by decide +kernel
theorem dL_law_1290 : decode cL_law 1290 = .ok (.aload_n 0, 1) := by decide +kernel
theorem dL_law_1291 : decode cL_law 1291 = .ok (.iload 5, 2) := by decide +kernel
theorem dL_law_1293 : decode cL_law 1293 = .ok (.iconst 1, 1) := by decide +kernel
theorem dL_law_1294 : decode cL_law 1294 = .ok (.iadd, 1) := by decide +kernel
theorem dL_law_1295 : decode cL_law 1295 = .ok (.iaload, 1) := by decide +kernel
theorem dL_law_1296 : decode cL_law 1296 = .ok (.invokevirtual 221, 3) := by decide +kernel
theorem dL_law_1299 : decode cL_law 1299 = .ok (.istore 7, 2) := by decide +kernel
theorem dL_law_1301 : decode cL_law 1301 = .ok (.aload_n 2, 1) := by decide +kernel
theorem dL_law_1302 : decode cL_law 1302 = .ok (.invokevirtual 170, 3) := by decide +kernel
theorem dL_law_1305 : decode cL_law 1305 = .ok (.iload 6, 2) := by decide +kernel
theorem dL_law_1307 : decode cL_law 1307 = .ok (.if_icmp .eq 5, 3) := by decide +kernel
theorem dL_law_1310 : decode cL_law 1310 = .ok (.iconst 0, 1) := by decide +kernel
theorem dL_law_1311 : decode cL_law 1311 = .ok (.ireturn, 1) := by decide +kernel
theorem dL_law_1312 : decode cL_law 1312 = .ok (.iload 6, 2) := by decide +kernel
theorem dL_law_1314 : decode cL_law 1314 = .ok (.ifCond .ne 15, 3) := by decide +kernel
theorem dL_law_1317 : decode cL_law 1317 = .ok (.aload_n 3, 1) := by decide +kernel
theorem dL_law_1318 : decode cL_law 1318 = .ok (.iconst 0, 1) := by decide +kernel
theorem dL_law_1319 : decode cL_law 1319 = .ok (.laload, 1) := by decide +kernel
theorem dL_law_1320 : decode cL_law 1320 = .ok (.iload 7, 2) := by decide +kernel
theorem dL_law_1322 : decode cL_law 1322 = .ok (.i2l, 1) := by decide +kernel
theorem dL_law_1323 : decode cL_law 1323 = .ok (.lcmp, 1) := by decide +kernel
theorem dL_law_1324 : decode cL_law 1324 = .ok (.ifCond .eq 5, 3) := by decide +kernel
theorem dL_law_1327 : decode cL_law 1327 = .ok (.iconst 0, 1) := by decide +kernel
theorem dL_law_1328 : decode cL_law 1328 = .ok (.ireturn, 1) := by decide +kernel
theorem dL_law_1329 : decode cL_law 1329 = .ok (.goto 1355, 3) := by decide +kernel
theorem dL_law_1332 : decode cL_law 1332 = .ok (.aload_n 1, 1) := by decide +kernel
theorem dL_law_1333 : decode cL_law 1333 = .ok (.aload_n 0, 1) := by decide +kernel
theorem dL_law_1334 : decode cL_law 1334 = .ok (.iload 5, 2) := by decide +kernel
theorem dL_law_1336 : decode cL_law 1336 = .ok (.iconst 1, 1) := by decide +kernel
theorem dL_law_1337 : decode cL_law 1337 = .ok (.iadd, 1) := by decide +kernel
theorem dL_law_1338 : decode cL_law 1338 = .ok (.iaload, 1) := by decide +kernel
theorem dL_law_1339 : decode cL_law 1339 = .ok (.aload_n 3, 1) := by decide +kernel
theorem dL_law_1340 : decode cL_law 1340 = .ok (.invokestatic 222, 3) := by decide +kernel
theorem dL_law_1343 : decode cL_law 1343 = .ok (.istore 6, 2) := by decide +kernel
theorem dL_law_1345 : decode cL_law 1345 = .ok (.aload_n 2, 1) := by decide +kernel
theorem dL_law_1346 : decode cL_law 1346 = .ok (.aload_n 0, 1) := by decide +kernel
theorem dL_law_1347 : decode cL_law 1347 = .ok (.iload 5, 2) := by decide +kernel
theorem dL_law_1349 : decode cL_law 1349 = .ok (.iconst 1, 1) := by decide +kernel
theorem dL_law_1350 : decode cL_law 1350 = .ok (.iadd, 1) := by decide +kernel
theorem dL_law_1351 : decode cL_law 1351 = .ok (.iaload, 1) := by decide +kernel
theorem dL_law_1352 : decode cL_law 1352 = .ok (.invokevirtual 224, 3) := by decide +kernel
theorem dL_law_1355 : decode cL_law 1355 = .ok (.istore 7, 2) := by decide +kernel
theorem dL_law_1357 : decode cL_law 1357 = .ok (.aload_n 2, 1) := by decide +kernel
theorem dL_law_1358 : decode cL_law 1358 = .ok (.invokevirtual 170, 3) := by decide +kernel
theorem dL_law_1361 : decode cL_law 1361 = .ok (.iload 6, 2) := by decide +kernel
theorem dL_law_1363 : decode cL_law 1363 = .ok (.if_icmp .eq 5, 3) := by decide +kernel
theorem dL_law_1366 : decode cL_law 1366 = .ok (.iconst 0, 1) := by decide +kernel
theorem dL_law_1367 : decode cL_law 1367 = .ok (.ireturn, 1) := by decide +kernel
theorem dL_law_1368 : decode cL_law 1368 = .ok (.iload 6, 2) := by decide +kernel
theorem dL_law_1370 : decode cL_law 1370 = .ok (.ifCond .ne 15, 3) := by decide +kernel
theorem dL_law_1373 : decode cL_law 1373 = .ok (.aload_n 3, 1) := by decide +kernel
theorem dL_law_1374 : decode cL_law 1374 = .ok (.iconst 0, 1) := by decide +kernel
theorem dL_law_1375 : decode cL_law 1375 = .ok (.laload, 1) := by decide +kernel
theorem dL_law_1376 : decode cL_law 1376 = .ok (.iload 7, 2) := by decide +kernel
theorem dL_law_1378 : decode cL_law 1378 = .ok (.i2l, 1) := by decide +kernel
theorem dL_law_1379 : decode cL_law 1379 = .ok (.lcmp, 1) := by decide +kernel
theorem dL_law_1380 : decode cL_law 1380 = .ok (.ifCond .eq 5, 3) := by decide +kernel
theorem dL_law_1383 : decode cL_law 1383 = .ok (.iconst 0, 1) := by decide +kernel
theorem dL_law_1384 : decode cL_law 1384 = .ok (.ireturn, 1) := by decide +kernel
theorem dL_law_1385 : decode cL_law 1385 = .ok (.goto 1299, 3) := by decide +kernel
theorem dL_law_1388 : decode cL_law 1388 = .ok (.aload_n 1, 1) := by decide +kernel
theorem dL_law_1389 : decode cL_law 1389 = .ok (.aload_n 0, 1) := by decide +kernel
theorem dL_law_1390 : decode cL_law 1390 = .ok (.iload 5, 2) := by decide +kernel
theorem dL_law_1392 : decode cL_law 1392 = .ok (.iconst 1, 1) := by decide +kernel
theorem dL_law_1393 : decode cL_law 1393 = .ok (.iadd, 1) := by decide +kernel
theorem dL_law_1394 : decode cL_law 1394 = .ok (.iaload, 1) := by decide +kernel
theorem dL_law_1395 : decode cL_law 1395 = .ok (.aload_n 3, 1) := by decide +kernel
theorem dL_law_1396 : decode cL_law 1396 = .ok (.invokestatic 225, 3) := by decide +kernel
theorem dL_law_1399 : decode cL_law 1399 = .ok (.istore 6, 2) := by decide +kernel
theorem dL_law_1401 : decode cL_law 1401 = .ok (.aload_n 2, 1) := by decide +kernel
theorem dL_law_1402 : decode cL_law 1402 = .ok (.aload_n 0, 1) := by decide +kernel
theorem dL_law_1403 : decode cL_law 1403 = .ok (.iload 5, 2) := by decide +kernel
theorem dL_law_1405 : decode cL_law 1405 = .ok (.iconst 1, 1) := by decide +kernel
theorem dL_law_1406 : decode cL_law 1406 = .ok (.iadd, 1) := by decide +kernel
theorem dL_law_1407 : decode cL_law 1407 = .ok (.iaload, 1) := by decide +kernel
theorem dL_law_1408 : decode cL_law 1408 = .ok (.invokevirtual 227, 3) := by decide +kernel
theorem dL_law_1411 : decode cL_law 1411 = .ok (.istore 7, 2) := by decide +kernel
theorem dL_law_1413 : decode cL_law 1413 = .ok (.aload_n 2, 1) := by decide +kernel
theorem dL_law_1414 : decode cL_law 1414 = .ok (.invokevirtual 170, 3) := by decide +kernel
theorem dL_law_1417 : decode cL_law 1417 = .ok (.iload 6, 2) := by decide +kernel
theorem dL_law_1419 : decode cL_law 1419 = .ok (.if_icmp .eq 5, 3) := by decide +kernel
theorem dL_law_1422 : decode cL_law 1422 = .ok (.iconst 0, 1) := by decide +kernel
theorem dL_law_1423 : decode cL_law 1423 = .ok (.ireturn, 1) := by decide +kernel
theorem dL_law_1424 : decode cL_law 1424 = .ok (.iload 6, 2) := by decide +kernel
theorem dL_law_1426 : decode cL_law 1426 = .ok (.ifCond .ne 15, 3) := by decide +kernel
theorem dL_law_1429 : decode cL_law 1429 = .ok (.aload_n 3, 1) := by decide +kernel
theorem dL_law_1430 : decode cL_law 1430 = .ok (.iconst 0, 1) := by decide +kernel
theorem dL_law_1431 : decode cL_law 1431 = .ok (.laload, 1) := by decide +kernel
theorem dL_law_1432 : decode cL_law 1432 = .ok (.iload 7, 2) := by decide +kernel
theorem dL_law_1434 : decode cL_law 1434 = .ok (.i2l, 1) := by decide +kernel
theorem dL_law_1435 : decode cL_law 1435 = .ok (.lcmp, 1) := by decide +kernel
theorem dL_law_1436 : decode cL_law 1436 = .ok (.ifCond .eq 5, 3) := by decide +kernel
theorem dL_law_1439 : decode cL_law 1439 = .ok (.iconst 0, 1) := by decide +kernel
theorem dL_law_1440 : decode cL_law 1440 = .ok (.ireturn, 1) := by decide +kernel
theorem dL_law_1441 : decode cL_law 1441 = .ok (.goto 1243, 3) := by decide +kernel
theorem dL_law_1444 : decode cL_law 1444 = .ok (.aload_n 1, 1) := by decide +kernel
theorem dL_law_1445 : decode cL_law 1445 = .ok (.invokevirtual 228, 3) := by decide +kernel
theorem dL_law_1448 : decode cL_law 1448 = .ok (.aload_n 2, 1) := by decide +kernel
theorem dL_law_1449 : decode cL_law 1449 = .ok (.invokevirtual 231, 3) := by decide +kernel
theorem dL_law_1452 : decode cL_law 1452 = .ok (.if_icmp .eq 1232, 3) := by decide +kernel
theorem dL_law_1455 : decode cL_law 1455 = .ok (.iconst 0, 1) := by decide +kernel
theorem dL_law_1456 : decode cL_law 1456 = .ok (.ireturn, 1) := by decide +kernel
theorem dL_law_1457 : decode cL_law 1457 = .ok (.aload_n 1, 1) := by decide +kernel
theorem dL_law_1458 : decode cL_law 1458 = .ok (.invokevirtual 232, 3) := by decide +kernel
theorem dL_law_1461 : decode cL_law 1461 = .ok (.aload_n 2, 1) := by decide +kernel
theorem dL_law_1462 : decode cL_law 1462 = .ok (.invokevirtual 235, 3) := by decide +kernel
theorem dL_law_1465 : decode cL_law 1465 = .ok (.if_icmp .eq 1219, 3) := by decide +kernel
theorem dL_law_1468 : decode cL_law 1468 = .ok (.iconst 0, 1) := by decide +kernel
theorem dL_law_1469 : decode cL_law 1469 = .ok (.ireturn, 1) := by decide +kernel
theorem dL_law_1470 : decode cL_law 1470 = .ok (.aload_n 1, 1) := by decide +kernel
theorem dL_law_1471 : decode cL_law 1471 = .ok (.aload_n 0, 1) := by decide +kernel
theorem dL_law_1472 : decode cL_law 1472 = .ok (.iload 5, 2) := by decide +kernel
theorem dL_law_1474 : decode cL_law 1474 = .ok (.iconst 1, 1) := by decide +kernel
theorem dL_law_1475 : decode cL_law 1475 = .ok (.iadd, 1) := by decide +kernel
theorem dL_law_1476 : decode cL_law 1476 = .ok (.iaload, 1) := by decide +kernel
theorem dL_law_1477 : decode cL_law 1477 = .ok (.invokevirtual 236, 3) := by decide +kernel
theorem dL_law_1480 : decode cL_law 1480 = .ok (.aload_n 2, 1) := by decide +kernel
theorem dL_law_1481 : decode cL_law 1481 = .ok (.aload_n 0, 1) := by decide +kernel
theorem dL_law_1482 : decode cL_law 1482 = .ok (.iload 5, 2) := by decide +kernel
theorem dL_law_1484 : decode cL_law 1484 = .ok (.iconst 1, 1) := by decide +kernel
theorem dL_law_1485 : decode cL_law 1485 = .ok (.iadd, 1) := by decide +kernel
theorem dL_law_1486 : decode cL_law 1486 = .ok (.iaload, 1) := by decide +kernel
theorem dL_law_1487 : decode cL_law 1487 = .ok (.invokevirtual 239, 3) := by decide +kernel
theorem dL_law_1490 : decode cL_law 1490 = .ok (.if_icmp .eq 1194, 3) := by decide +kernel
theorem dL_law_1493 : decode cL_law 1493 = .ok (.iconst 0, 1) := by decide +kernel
theorem dL_law_1494 : decode cL_law 1494 = .ok (.ireturn, 1) := by decide +kernel
theorem dL_law_1495 : decode cL_law 1495 = .ok (.aload_n 1, 1) := by decide +kernel
theorem dL_law_1496 : decode cL_law 1496 = .ok (.aload_n 0, 1) := by decide +kernel
theorem dL_law_1497 : decode cL_law 1497 = .ok (.iload 5, 2) := by decide +kernel
theorem dL_law_1499 : decode cL_law 1499 = .ok (.iconst 1, 1) := by decide +kernel
theorem dL_law_1500 : decode cL_law 1500 = .ok (.iadd, 1) := by decide +kernel
theorem dL_law_1501 : decode cL_law 1501 = .ok (.iaload, 1) := by decide +kernel
theorem dL_law_1502 : decode cL_law 1502 = .ok (.invokevirtual 240, 3) := by decide +kernel
theorem dL_law_1505 : decode cL_law 1505 = .ok (.aload_n 2, 1) := by decide +kernel
theorem dL_law_1506 : decode cL_law 1506 = .ok (.aload_n 0, 1) := by decide +kernel
theorem dL_law_1507 : decode cL_law 1507 = .ok (.iload 5, 2) := by decide +kernel
theorem dL_law_1509 : decode cL_law 1509 = .ok (.iconst 1, 1) := by decide +kernel
theorem dL_law_1510 : decode cL_law 1510 = .ok (.iadd, 1) := by decide +kernel
theorem dL_law_1511 : decode cL_law 1511 = .ok (.iaload, 1) := by decide +kernel
theorem dL_law_1512 : decode cL_law 1512 = .ok (.invokevirtual 243, 3) := by decide +kernel
theorem dL_law_1515 : decode cL_law 1515 = .ok (.if_icmp .eq 1169, 3) := by decide +kernel
theorem dL_law_1518 : decode cL_law 1518 = .ok (.iconst 0, 1) := by decide +kernel
theorem dL_law_1519 : decode cL_law 1519 = .ok (.ireturn, 1) := by decide +kernel
theorem dL_law_1520 : decode cL_law 1520 = .ok (.aload_n 1, 1) := by decide +kernel
theorem dL_law_1521 : decode cL_law 1521 = .ok (.aload_n 0, 1) := by decide +kernel
theorem dL_law_1522 : decode cL_law 1522 = .ok (.iload 5, 2) := by decide +kernel
theorem dL_law_1524 : decode cL_law 1524 = .ok (.iconst 1, 1) := by decide +kernel
theorem dL_law_1525 : decode cL_law 1525 = .ok (.iadd, 1) := by decide +kernel
theorem dL_law_1526 : decode cL_law 1526 = .ok (.iaload, 1) := by decide +kernel
theorem dL_law_1527 : decode cL_law 1527 = .ok (.invokevirtual 244, 3) := by decide +kernel
theorem dL_law_1530 : decode cL_law 1530 = .ok (.aload_n 2, 1) := by decide +kernel
theorem dL_law_1531 : decode cL_law 1531 = .ok (.aload_n 0, 1) := by decide +kernel
theorem dL_law_1532 : decode cL_law 1532 = .ok (.iload 5, 2) := by decide +kernel
theorem dL_law_1534 : decode cL_law 1534 = .ok (.iconst 1, 1) := by decide +kernel
theorem dL_law_1535 : decode cL_law 1535 = .ok (.iadd, 1) := by decide +kernel
theorem dL_law_1536 : decode cL_law 1536 = .ok (.iaload, 1) := by decide +kernel
theorem dL_law_1537 : decode cL_law 1537 = .ok (.invokevirtual 247, 3) := by decide +kernel
theorem dL_law_1540 : decode cL_law 1540 = .ok (.if_icmp .eq 1144, 3) := by decide +kernel
theorem dL_law_1543 : decode cL_law 1543 = .ok (.iconst 0, 1) := by decide +kernel
theorem dL_law_1544 : decode cL_law 1544 = .ok (.ireturn, 1) := by decide +kernel
theorem dL_law_1545 : decode cL_law 1545 = .ok (.aload_n 1, 1) := by decide +kernel
theorem dL_law_1546 : decode cL_law 1546 = .ok (.invokevirtual 248, 3) := by decide +kernel
theorem dL_law_1549 : decode cL_law 1549 = .ok (.aload_n 2, 1) := by decide +kernel
theorem dL_law_1550 : decode cL_law 1550 = .ok (.invokevirtual 251, 3) := by decide +kernel
theorem dL_law_1553 : decode cL_law 1553 = .ok (.if_icmp .eq 1131, 3) := by decide +kernel
theorem dL_law_1556 : decode cL_law 1556 = .ok (.iconst 0, 1) := by decide +kernel
theorem dL_law_1557 : decode cL_law 1557 = .ok (.ireturn, 1) := by decide +kernel
theorem dL_law_1558 : decode cL_law 1558 = .ok (.aload_n 1, 1) := by decide +kernel
theorem dL_law_1559 : decode cL_law 1559 = .ok (.aload_n 0, 1) := by decide +kernel
theorem dL_law_1560 : decode cL_law 1560 = .ok (.iload 5, 2) := by decide +kernel
theorem dL_law_1562 : decode cL_law 1562 = .ok (.iconst 1, 1) := by decide +kernel
theorem dL_law_1563 : decode cL_law 1563 = .ok (.iadd, 1) := by decide +kernel
theorem dL_law_1564 : decode cL_law 1564 = .ok (.iaload, 1) := by decide +kernel
theorem dL_law_1565 : decode cL_law 1565 = .ok (.aload_n 0, 1) := by decide +kernel
theorem dL_law_1566 : decode cL_law 1566 = .ok (.iload 5, 2) := by decide +kernel
theorem dL_law_1568 : decode cL_law 1568 = .ok (.iconst 2, 1) := by decide +kernel
theorem dL_law_1569 : decode cL_law 1569 = .ok (.iadd, 1) := by decide +kernel
theorem dL_law_1570 : decode cL_law 1570 = .ok (.iaload, 1) := by decide +kernel
theorem dL_law_1571 : decode cL_law 1571 = .ok (.aload_n 3, 1) := by decide +kernel
theorem dL_law_1572 : decode cL_law 1572 = .ok (.invokestatic 252, 3) := by decide +kernel
theorem dL_law_1575 : decode cL_law 1575 = .ok (.istore 6, 2) := by decide +kernel
theorem dL_law_1577 : decode cL_law 1577 = .ok (.aload_n 2, 1) := by decide +kernel
theorem dL_law_1578 : decode cL_law 1578 = .ok (.aload_n 0, 1) := by decide +kernel
theorem dL_law_1579 : decode cL_law 1579 = .ok (.iload 5, 2) := by decide +kernel
theorem dL_law_1581 : decode cL_law 1581 = .ok (.iconst 1, 1) := by decide +kernel
theorem dL_law_1582 : decode cL_law 1582 = .ok (.iadd, 1) := by decide +kernel
theorem dL_law_1583 : decode cL_law 1583 = .ok (.iaload, 1) := by decide +kernel
theorem dL_law_1584 : decode cL_law 1584 = .ok (.aload_n 0, 1) := by decide +kernel
theorem dL_law_1585 : decode cL_law 1585 = .ok (.iload 5, 2) := by decide +kernel
theorem dL_law_1587 : decode cL_law 1587 = .ok (.iconst 2, 1) := by decide +kernel
theorem dL_law_1588 : decode cL_law 1588 = .ok (.iadd, 1) := by decide +kernel
theorem dL_law_1589 : decode cL_law 1589 = .ok (.iaload, 1) := by decide +kernel
theorem dL_law_1590 : decode cL_law 1590 = .ok (.invokevirtual 254, 3) := by decide +kernel
theorem dL_law_1593 : decode cL_law 1593 = .ok (.istore 7, 2) := by decide +kernel
theorem dL_law_1595 : decode cL_law 1595 = .ok (.aload_n 2, 1) := by decide +kernel
theorem dL_law_1596 : decode cL_law 1596 = .ok (.invokevirtual 170, 3) := by decide +kernel
theorem dL_law_1599 : decode cL_law 1599 = .ok (.iload 6, 2) := by decide +kernel
theorem dL_law_1601 : decode cL_law 1601 = .ok (.if_icmp .eq 5, 3) := by decide +kernel
theorem dL_law_1604 : decode cL_law 1604 = .ok (.iconst 0, 1) := by decide +kernel
theorem dL_law_1605 : decode cL_law 1605 = .ok (.ireturn, 1) := by decide +kernel
theorem dL_law_1606 : decode cL_law 1606 = .ok (.iload 6, 2) := by decide +kernel
theorem dL_law_1608 : decode cL_law 1608 = .ok (.ifCond .ne 15, 3) := by decide +kernel
theorem dL_law_1611 : decode cL_law 1611 = .ok (.aload_n 3, 1) := by decide +kernel
theorem dL_law_1612 : decode cL_law 1612 = .ok (.iconst 0, 1) := by decide +kernel
theorem dL_law_1613 : decode cL_law 1613 = .ok (.laload, 1) := by decide +kernel
theorem dL_law_1614 : decode cL_law 1614 = .ok (.iload 7, 2) := by decide +kernel
theorem dL_law_1616 : decode cL_law 1616 = .ok (.i2l, 1) := by decide +kernel
theorem dL_law_1617 : decode cL_law 1617 = .ok (.lcmp, 1) := by decide +kernel
theorem dL_law_1618 : decode cL_law 1618 = .ok (.ifCond .eq 5, 3) := by decide +kernel
theorem dL_law_1621 : decode cL_law 1621 = .ok (.iconst 0, 1) := by decide +kernel
theorem dL_law_1622 : decode cL_law 1622 = .ok (.ireturn, 1) := by decide +kernel
theorem dL_law_1623 : decode cL_law 1623 = .ok (.goto 1061, 3) := by decide +kernel
theorem dL_law_1626 : decode cL_law 1626 = .ok (.aload_n 1, 1) := by decide +kernel
theorem dL_law_1627 : decode cL_law 1627 = .ok (.aload_n 0, 1) := by decide +kernel
theorem dL_law_1628 : decode cL_law 1628 = .ok (.iload 5, 2) := by decide +kernel
theorem dL_law_1630 : decode cL_law 1630 = .ok (.iconst 1, 1) := by decide +kernel
theorem dL_law_1631 : decode cL_law 1631 = .ok (.iadd, 1) := by decide +kernel
theorem dL_law_1632 : decode cL_law 1632 = .ok (.iaload, 1) := by decide +kernel
theorem dL_law_1633 : decode cL_law 1633 = .ok (.aload_n 0, 1) := by decide +kernel
theorem dL_law_1634 : decode cL_law 1634 = .ok (.iload 5, 2) := by decide +kernel
theorem dL_law_1636 : decode cL_law 1636 = .ok (.iconst 2, 1) := by decide +kernel
theorem dL_law_1637 : decode cL_law 1637 = .ok (.iadd, 1) := by decide +kernel
theorem dL_law_1638 : decode cL_law 1638 = .ok (.iaload, 1) := by decide +kernel
theorem dL_law_1639 : decode cL_law 1639 = .ok (.aload_n 3, 1) := by decide +kernel
theorem dL_law_1640 : decode cL_law 1640 = .ok (.invokestatic 255, 3) := by decide +kernel
theorem dL_law_1643 : decode cL_law 1643 = .ok (.istore 6, 2) := by decide +kernel
theorem dL_law_1645 : decode cL_law 1645 = .ok (.aload_n 2, 1) := by decide +kernel
theorem dL_law_1646 : decode cL_law 1646 = .ok (.aload_n 0, 1) := by decide +kernel
theorem dL_law_1647 : decode cL_law 1647 = .ok (.iload 5, 2) := by decide +kernel
theorem dL_law_1649 : decode cL_law 1649 = .ok (.iconst 1, 1) := by decide +kernel
theorem dL_law_1650 : decode cL_law 1650 = .ok (.iadd, 1) := by decide +kernel
theorem dL_law_1651 : decode cL_law 1651 = .ok (.iaload, 1) := by decide +kernel
theorem dL_law_1652 : decode cL_law 1652 = .ok (.aload_n 0, 1) := by decide +kernel
theorem dL_law_1653 : decode cL_law 1653 = .ok (.iload 5, 2) := by decide +kernel
theorem dL_law_1655 : decode cL_law 1655 = .ok (.iconst 2, 1) := by decide +kernel
theorem dL_law_1656 : decode cL_law 1656 = .ok (.iadd, 1) := by decide +kernel
theorem dL_law_1657 : decode cL_law 1657 = .ok (.iaload, 1) := by decide +kernel
theorem dL_law_1658 : decode cL_law 1658 = .ok (.invokevirtual 257, 3) := by decide +kernel
theorem dL_law_1661 : decode cL_law 1661 = .ok (.istore 7, 2) := by decide +kernel
theorem dL_law_1663 : decode cL_law 1663 = .ok (.aload_n 2, 1) := by decide +kernel
theorem dL_law_1664 : decode cL_law 1664 = .ok (.invokevirtual 170, 3) := by decide +kernel
theorem dL_law_1667 : decode cL_law 1667 = .ok (.iload 6, 2) := by decide +kernel
theorem dL_law_1669 : decode cL_law 1669 = .ok (.if_icmp .eq 5, 3) := by decide +kernel
theorem dL_law_1672 : decode cL_law 1672 = .ok (.iconst 0, 1) := by decide +kernel
theorem dL_law_1673 : decode cL_law 1673 = .ok (.ireturn, 1) := by decide +kernel
theorem dL_law_1674 : decode cL_law 1674 = .ok (.iload 6, 2) := by decide +kernel
theorem dL_law_1676 : decode cL_law 1676 = .ok (.ifCond .ne 15, 3) := by decide +kernel
theorem dL_law_1679 : decode cL_law 1679 = .ok (.aload_n 3, 1) := by decide +kernel
theorem dL_law_1680 : decode cL_law 1680 = .ok (.iconst 0, 1) := by decide +kernel
theorem dL_law_1681 : decode cL_law 1681 = .ok (.laload, 1) := by decide +kernel
theorem dL_law_1682 : decode cL_law 1682 = .ok (.iload 7, 2) := by decide +kernel
theorem dL_law_1684 : decode cL_law 1684 = .ok (.i2l, 1) := by decide +kernel
theorem dL_law_1685 : decode cL_law 1685 = .ok (.lcmp, 1) := by decide +kernel
theorem dL_law_1686 : decode cL_law 1686 = .ok (.ifCond .eq 5, 3) := by decide +kernel
theorem dL_law_1689 : decode cL_law 1689 = .ok (.iconst 0, 1) := by decide +kernel
theorem dL_law_1690 : decode cL_law 1690 = .ok (.ireturn, 1) := by decide +kernel
theorem dL_law_1691 : decode cL_law 1691 = .ok (.goto 993, 3) := by decide +kernel
theorem dL_law_1694 : decode cL_law 1694 = .ok (.aload_n 1, 1) := by decide +kernel
theorem dL_law_1695 : decode cL_law 1695 = .ok (.aload_n 0, 1) := by decide +kernel
theorem dL_law_1696 : decode cL_law 1696 = .ok (.iload 5, 2) := by decide +kernel
theorem dL_law_1698 : decode cL_law 1698 = .ok (.iconst 1, 1) := by decide +kernel
theorem dL_law_1699 : decode cL_law 1699 = .ok (.iadd, 1) := by decide +kernel
theorem dL_law_1700 : decode cL_law 1700 = .ok (.iaload, 1) := by decide +kernel
theorem dL_law_1701 : decode cL_law 1701 = .ok (.aload_n 3, 1) := by decide +kernel
theorem dL_law_1702 : decode cL_law 1702 = .ok (.invokestatic 258, 3) := by decide +kernel
theorem dL_law_1705 : decode cL_law 1705 = .ok (.istore 6, 2) := by decide +kernel
theorem dL_law_1707 : decode cL_law 1707 = .ok (.aload_n 2, 1) := by decide +kernel
theorem dL_law_1708 : decode cL_law 1708 = .ok (.aload_n 0, 1) := by decide +kernel
theorem dL_law_1709 : decode cL_law 1709 = .ok (.iload 5, 2) := by decide +kernel
theorem dL_law_1711 : decode cL_law 1711 = .ok (.iconst 1, 1) := by decide +kernel
theorem dL_law_1712 : decode cL_law 1712 = .ok (.iadd, 1) := by decide +kernel
theorem dL_law_1713 : decode cL_law 1713 = .ok (.iaload, 1) := by decide +kernel
theorem dL_law_1714 : decode cL_law 1714 = .ok (.invokevirtual 260, 3) := by decide +kernel
theorem dL_law_1717 : decode cL_law 1717 = .ok (.istore 7, 2) := by decide +kernel
theorem dL_law_1719 : decode cL_law 1719 = .ok (.aload_n 2, 1) := by decide +kernel
theorem dL_law_1720 : decode cL_law 1720 = .ok (.invokevirtual 170, 3) := by decide +kernel
theorem dL_law_1723 : decode cL_law 1723 = .ok (.iload 6, 2) := by decide +kernel
theorem dL_law_1725 : decode cL_law 1725 = .ok (.if_icmp .eq 5, 3) := by decide +kernel
theorem dL_law_1728 : decode cL_law 1728 = .ok (.iconst 0, 1) := by decide +kernel
theorem dL_law_1729 : decode cL_law 1729 = .ok (.ireturn, 1) := by decide +kernel
theorem dL_law_1730 : decode cL_law 1730 = .ok (.iload 6, 2) := by decide +kernel
theorem dL_law_1732 : decode cL_law 1732 = .ok (.ifCond .ne 15, 3) := by decide +kernel
theorem dL_law_1735 : decode cL_law 1735 = .ok (.aload_n 3, 1) := by decide +kernel
theorem dL_law_1736 : decode cL_law 1736 = .ok (.iconst 0, 1) := by decide +kernel
theorem dL_law_1737 : decode cL_law 1737 = .ok (.laload, 1) := by decide +kernel
theorem dL_law_1738 : decode cL_law 1738 = .ok (.iload 7, 2) := by decide +kernel
theorem dL_law_1740 : decode cL_law 1740 = .ok (.i2l, 1) := by decide +kernel
theorem dL_law_1741 : decode cL_law 1741 = .ok (.lcmp, 1) := by decide +kernel
theorem dL_law_1742 : decode cL_law 1742 = .ok (.ifCond .eq 5, 3) := by decide +kernel
theorem dL_law_1745 : decode cL_law 1745 = .ok (.iconst 0, 1) := by decide +kernel
theorem dL_law_1746 : decode cL_law 1746 = .ok (.ireturn, 1) := by decide +kernel
theorem dL_law_1747 : decode cL_law 1747 = .ok (.goto 937, 3) := by decide +kernel
theorem dL_law_1750 : decode cL_law 1750 = .ok (.aload_n 1, 1) := by decide +kernel
theorem dL_law_1751 : decode cL_law 1751 = .ok (.invokevirtual 261, 3) := by decide +kernel
theorem dL_law_1754 : decode cL_law 1754 = .ok (.aload_n 2, 1) := by decide +kernel
theorem dL_law_1755 : decode cL_law 1755 = .ok (.invokevirtual 264, 3) := by decide +kernel
theorem dL_law_1758 : decode cL_law 1758 = .ok (.if_icmp .eq 926, 3) := by decide +kernel
theorem dL_law_1761 : decode cL_law 1761 = .ok (.iconst 0, 1) := by decide +kernel
theorem dL_law_1762 : decode cL_law 1762 = .ok (.ireturn, 1) := by decide +kernel
theorem dL_law_1763 : decode cL_law 1763 = .ok (.aload_n 1, 1) := by decide +kernel
theorem dL_law_1764 : decode cL_law 1764 = .ok (.aload_n 0, 1) := by decide +kernel
theorem dL_law_1765 : decode cL_law 1765 = .ok (.iload 5, 2) := by decide +kernel
theorem dL_law_1767 : decode cL_law 1767 = .ok (.iconst 1, 1) := by decide +kernel
theorem dL_law_1768 : decode cL_law 1768 = .ok (.iadd, 1) := by decide +kernel
theorem dL_law_1769 : decode cL_law 1769 = .ok (.iaload, 1) := by decide +kernel
theorem dL_law_1770 : decode cL_law 1770 = .ok (.aload_n 3, 1) := by decide +kernel
theorem dL_law_1771 : decode cL_law 1771 = .ok (.invokestatic 265, 3) := by decide +kernel
theorem dL_law_1774 : decode cL_law 1774 = .ok (.istore 6, 2) := by decide +kernel
theorem dL_law_1776 : decode cL_law 1776 = .ok (.aload_n 2, 1) := by decide +kernel
theorem dL_law_1777 : decode cL_law 1777 = .ok (.aload_n 0, 1) := by decide +kernel
theorem dL_law_1778 : decode cL_law 1778 = .ok (.iload 5, 2) := by decide +kernel
theorem dL_law_1780 : decode cL_law 1780 = .ok (.iconst 1, 1) := by decide +kernel
theorem dL_law_1781 : decode cL_law 1781 = .ok (.iadd, 1) := by decide +kernel
theorem dL_law_1782 : decode cL_law 1782 = .ok (.iaload, 1) := by decide +kernel
theorem dL_law_1783 : decode cL_law 1783 = .ok (.invokevirtual 267, 3) := by decide +kernel
theorem dL_law_1786 : decode cL_law 1786 = .ok (.istore 7, 2) := by decide +kernel
theorem dL_law_1788 : decode cL_law 1788 = .ok (.aload_n 2, 1) := by decide +kernel
theorem dL_law_1789 : decode cL_law 1789 = .ok (.invokevirtual 170, 3) := by decide +kernel
theorem dL_law_1792 : decode cL_law 1792 = .ok (.iload 6, 2) := by decide +kernel
theorem dL_law_1794 : decode cL_law 1794 = .ok (.if_icmp .eq 5, 3) := by decide +kernel
theorem dL_law_1797 : decode cL_law 1797 = .ok (.iconst 0, 1) := by decide +kernel
theorem dL_law_1798 : decode cL_law 1798 = .ok (.ireturn, 1) := by decide +kernel
theorem dL_law_1799 : decode cL_law 1799 = .ok (.iload 6, 2) := by decide +kernel
theorem dL_law_1801 : decode cL_law 1801 = .ok (.ifCond .ne 15, 3) := by decide +kernel
theorem dL_law_1804 : decode cL_law 1804 = .ok (.aload_n 3, 1) := by decide +kernel
theorem dL_law_1805 : decode cL_law 1805 = .ok (.iconst 0, 1) := by decide +kernel
theorem dL_law_1806 : decode cL_law 1806 = .ok (.laload, 1) := by decide +kernel
theorem dL_law_1807 : decode cL_law 1807 = .ok (.iload 7, 2) := by decide +kernel
theorem dL_law_1809 : decode cL_law 1809 = .ok (.i2l, 1) := by decide +kernel
theorem dL_law_1810 : decode cL_law 1810 = .ok (.lcmp, 1) := by decide +kernel
theorem dL_law_1811 : decode cL_law 1811 = .ok (.ifCond .eq 5, 3) := by decide +kernel
theorem dL_law_1814 : decode cL_law 1814 = .ok (.iconst 0, 1) := by decide +kernel
theorem dL_law_1815 : decode cL_law 1815 = .ok (.ireturn, 1) := by decide +kernel
theorem dL_law_1816 : decode cL_law 1816 = .ok (.goto 868, 3) := by decide +kernel
theorem dL_law_1819 : decode cL_law 1819 = .ok (.aload_n 1, 1) := by decide +kernel
theorem dL_law_1820 : decode cL_law 1820 = .ok (.aload_n 0, 1) := by decide +kernel
theorem dL_law_1821 : decode cL_law 1821 = .ok (.iload 5, 2) := by decide +kernel
theorem dL_law_1823 : decode cL_law 1823 = .ok (.iconst 1, 1) := by decide +kernel
theorem dL_law_1824 : decode cL_law 1824 = .ok (.iadd, 1) := by decide +kernel
theorem dL_law_1825 : decode cL_law 1825 = .ok (.iaload, 1) := by decide +kernel
theorem dL_law_1826 : decode cL_law 1826 = .ok (.aload_n 3, 1) := by decide +kernel
theorem dL_law_1827 : decode cL_law 1827 = .ok (.invokestatic 268, 3) := by decide +kernel
theorem dL_law_1830 : decode cL_law 1830 = .ok (.istore 6, 2) := by decide +kernel
theorem dL_law_1832 : decode cL_law 1832 = .ok (.aload_n 2, 1) := by decide +kernel
theorem dL_law_1833 : decode cL_law 1833 = .ok (.aload_n 0, 1) := by decide +kernel
theorem dL_law_1834 : decode cL_law 1834 = .ok (.iload 5, 2) := by decide +kernel
theorem dL_law_1836 : decode cL_law 1836 = .ok (.iconst 1, 1) := by decide +kernel
theorem dL_law_1837 : decode cL_law 1837 = .ok (.iadd, 1) := by decide +kernel
theorem dL_law_1838 : decode cL_law 1838 = .ok (.iaload, 1) := by decide +kernel
theorem dL_law_1839 : decode cL_law 1839 = .ok (.invokevirtual 270, 3) := by decide +kernel
theorem dL_law_1842 : decode cL_law 1842 = .ok (.istore 7, 2) := by decide +kernel
theorem dL_law_1844 : decode cL_law 1844 = .ok (.aload_n 2, 1) := by decide +kernel
theorem dL_law_1845 : decode cL_law 1845 = .ok (.invokevirtual 170, 3) := by decide +kernel
theorem dL_law_1848 : decode cL_law 1848 = .ok (.iload 6, 2) := by decide +kernel
theorem dL_law_1850 : decode cL_law 1850 = .ok (.if_icmp .eq 5, 3) := by decide +kernel
theorem dL_law_1853 : decode cL_law 1853 = .ok (.iconst 0, 1) := by decide +kernel
theorem dL_law_1854 : decode cL_law 1854 = .ok (.ireturn, 1) := by decide +kernel
theorem dL_law_1855 : decode cL_law 1855 = .ok (.iload 6, 2) := by decide +kernel
theorem dL_law_1857 : decode cL_law 1857 = .ok (.ifCond .ne 15, 3) := by decide +kernel
theorem dL_law_1860 : decode cL_law 1860 = .ok (.aload_n 3, 1) := by decide +kernel
theorem dL_law_1861 : decode cL_law 1861 = .ok (.iconst 0, 1) := by decide +kernel
theorem dL_law_1862 : decode cL_law 1862 = .ok (.laload, 1) := by decide +kernel
theorem dL_law_1863 : decode cL_law 1863 = .ok (.iload 7, 2) := by decide +kernel
theorem dL_law_1865 : decode cL_law 1865 = .ok (.i2l, 1) := by decide +kernel
theorem dL_law_1866 : decode cL_law 1866 = .ok (.lcmp, 1) := by decide +kernel
theorem dL_law_1867 : decode cL_law 1867 = .ok (.ifCond .eq 5, 3) := by decide +kernel
theorem dL_law_1870 : decode cL_law 1870 = .ok (.iconst 0, 1) := by decide +kernel
theorem dL_law_1871 : decode cL_law 1871 = .ok (.ireturn, 1) := by decide +kernel
theorem dL_law_1872 : decode cL_law 1872 = .ok (.goto 812, 3) := by decide +kernel
theorem dL_law_1875 : decode cL_law 1875 = .ok (.aload_n 1, 1) := by decide +kernel
theorem dL_law_1876 : decode cL_law 1876 = .ok (.aload_n 0, 1) := by decide +kernel
theorem dL_law_1877 : decode cL_law 1877 = .ok (.iload 5, 2) := by decide +kernel
theorem dL_law_1879 : decode cL_law 1879 = .ok (.iconst 1, 1) := by decide +kernel
theorem dL_law_1880 : decode cL_law 1880 = .ok (.iadd, 1) := by decide +kernel
theorem dL_law_1881 : decode cL_law 1881 = .ok (.iaload, 1) := by decide +kernel
theorem dL_law_1882 : decode cL_law 1882 = .ok (.aload_n 3, 1) := by decide +kernel
theorem dL_law_1883 : decode cL_law 1883 = .ok (.invokestatic 271, 3) := by decide +kernel
theorem dL_law_1886 : decode cL_law 1886 = .ok (.istore 6, 2) := by decide +kernel
theorem dL_law_1888 : decode cL_law 1888 = .ok (.aload_n 2, 1) := by decide +kernel
theorem dL_law_1889 : decode cL_law 1889 = .ok (.aload_n 0, 1) := by decide +kernel
theorem dL_law_1890 : decode cL_law 1890 = .ok (.iload 5, 2) := by decide +kernel
theorem dL_law_1892 : decode cL_law 1892 = .ok (.iconst 1, 1) := by decide +kernel
theorem dL_law_1893 : decode cL_law 1893 = .ok (.iadd, 1) := by decide +kernel
theorem dL_law_1894 : decode cL_law 1894 = .ok (.iaload, 1) := by decide +kernel
theorem dL_law_1895 : decode cL_law 1895 = .ok (.invokevirtual 273, 3) := by decide +kernel
theorem dL_law_1898 : decode cL_law 1898 = .ok (.istore 7, 2) := by decide +kernel
theorem dL_law_1900 : decode cL_law 1900 = .ok (.aload_n 2, 1) := by decide +kernel
theorem dL_law_1901 : decode cL_law 1901 = .ok (.invokevirtual 170, 3) := by decide +kernel
theorem dL_law_1904 : decode cL_law 1904 = .ok (.iload 6, 2) := by decide +kernel
theorem dL_law_1906 : decode cL_law 1906 = .ok (.if_icmp .eq 5, 3) := by decide +kernel
theorem dL_law_1909 : decode cL_law 1909 = .ok (.iconst 0, 1) := by decide +kernel
theorem dL_law_1910 : decode cL_law 1910 = .ok (.ireturn, 1) := by decide +kernel
theorem dL_law_1911 : decode cL_law 1911 = .ok (.iload 6, 2) := by decide +kernel
theorem dL_law_1913 : decode cL_law 1913 = .ok (.ifCond .ne 15, 3) := by decide +kernel
theorem dL_law_1916 : decode cL_law 1916 = .ok (.aload_n 3, 1) := by decide +kernel
theorem dL_law_1917 : decode cL_law 1917 = .ok (.iconst 0, 1) := by decide +kernel
theorem dL_law_1918 : decode cL_law 1918 = .ok (.laload, 1) := by decide +kernel
theorem dL_law_1919 : decode cL_law 1919 = .ok (.iload 7, 2) := by decide +kernel
theorem dL_law_1921 : decode cL_law 1921 = .ok (.i2l, 1) := by decide +kernel
theorem dL_law_1922 : decode cL_law 1922 = .ok (.lcmp, 1) := by decide +kernel
theorem dL_law_1923 : decode cL_law 1923 = .ok (.ifCond .eq 5, 3) := by decide +kernel
theorem dL_law_1926 : decode cL_law 1926 = .ok (.iconst 0, 1) := by decide +kernel
theorem dL_law_1927 : decode cL_law 1927 = .ok (.ireturn, 1) := by decide +kernel
theorem dL_law_1928 : decode cL_law 1928 = .ok (.goto 756, 3) := by decide +kernel
theorem dL_law_1931 : decode cL_law 1931 = .ok (.aload_n 1, 1) := by decide +kernel
theorem dL_law_1932 : decode cL_law 1932 = .ok (.invokevirtual 274, 3) := by decide +kernel
theorem dL_law_1935 : decode cL_law 1935 = .ok (.aload_n 2, 1) := by decide +kernel
theorem dL_law_1936 : decode cL_law 1936 = .ok (.invokevirtual 277, 3) := by decide +kernel
theorem dL_law_1939 : decode cL_law 1939 = .ok (.if_icmp .eq 745, 3) := by decide +kernel
theorem dL_law_1942 : decode cL_law 1942 = .ok (.iconst 0, 1) := by decide +kernel
theorem dL_law_1943 : decode cL_law 1943 = .ok (.ireturn, 1) := by decide +kernel
theorem dL_law_1944 : decode cL_law 1944 = .ok (.aload_n 1, 1) := by decide +kernel
theorem dL_law_1945 : decode cL_law 1945 = .ok (.invokevirtual 278, 3) := by decide +kernel
theorem dL_law_1948 : decode cL_law 1948 = .ok (.aload_n 2, 1) := by decide +kernel
theorem dL_law_1949 : decode cL_law 1949 = .ok (.invokevirtual 281, 3) := by decide +kernel
theorem dL_law_1952 : decode cL_law 1952 = .ok (.if_icmp .eq 732, 3) := by decide +kernel
theorem dL_law_1955 : decode cL_law 1955 = .ok (.iconst 0, 1) := by decide +kernel
theorem dL_law_1956 : decode cL_law 1956 = .ok (.ireturn, 1) := by decide +kernel
theorem dL_law_1957 : decode cL_law 1957 = .ok (.aload_n 1, 1) := by decide +kernel
theorem dL_law_1958 : decode cL_law 1958 = .ok (.invokevirtual 282, 3) := by decide +kernel
theorem dL_law_1961 : decode cL_law 1961 = .ok (.aload_n 2, 1) := by decide +kernel
theorem dL_law_1962 : decode cL_law 1962 = .ok (.invokevirtual 285, 3) := by decide +kernel
theorem dL_law_1965 : decode cL_law 1965 = .ok (.if_icmp .eq 719, 3) := by decide +kernel
theorem dL_law_1968 : decode cL_law 1968 = .ok (.iconst 0, 1) := by decide +kernel
theorem dL_law_1969 : decode cL_law 1969 = .ok (.ireturn, 1) := by decide +kernel
theorem dL_law_1970 : decode cL_law 1970 = .ok (.aload_n 1, 1) := by decide +kernel
theorem dL_law_1971 : decode cL_law 1971 = .ok (.invokevirtual 286, 3) := by decide +kernel
theorem dL_law_1974 : decode cL_law 1974 = .ok (.aload_n 2, 1) := by decide +kernel
theorem dL_law_1975 : decode cL_law 1975 = .ok (.invokevirtual 289, 3) := by decide +kernel
theorem dL_law_1978 : decode cL_law 1978 = .ok (.if_icmp .eq 706, 3) := by decide +kernel
theorem dL_law_1981 : decode cL_law 1981 = .ok (.iconst 0, 1) := by decide +kernel
theorem dL_law_1982 : decode cL_law 1982 = .ok (.ireturn, 1) := by decide +kernel
theorem dL_law_1983 : decode cL_law 1983 = .ok (.aload_n 1, 1) := by decide +kernel
theorem dL_law_1984 : decode cL_law 1984 = .ok (.invokevirtual 290, 3) := by decide +kernel
theorem dL_law_1987 : decode cL_law 1987 = .ok (.aload_n 2, 1) := by decide +kernel
theorem dL_law_1988 : decode cL_law 1988 = .ok (.invokevirtual 293, 3) := by decide +kernel
theorem dL_law_1991 : decode cL_law 1991 = .ok (.if_icmp .eq 693, 3) := by decide +kernel
theorem dL_law_1994 : decode cL_law 1994 = .ok (.iconst 0, 1) := by decide +kernel
theorem dL_law_1995 : decode cL_law 1995 = .ok (.ireturn, 1) := by decide +kernel
theorem dL_law_1996 : decode cL_law 1996 = .ok (.aload_n 1, 1) := by decide +kernel
theorem dL_law_1997 : decode cL_law 1997 = .ok (.invokevirtual 294, 3) := by decide +kernel
theorem dL_law_2000 : decode cL_law 2000 = .ok (.aload_n 2, 1) := by decide +kernel
theorem dL_law_2001 : decode cL_law 2001 = .ok (.invokevirtual 297, 3) := by decide +kernel
theorem dL_law_2004 : decode cL_law 2004 = .ok (.if_icmp .eq 680, 3) := by decide +kernel
theorem dL_law_2007 : decode cL_law 2007 = .ok (.iconst 0, 1) := by decide +kernel
theorem dL_law_2008 : decode cL_law 2008 = .ok (.ireturn, 1) := by decide +kernel
theorem dL_law_2009 : decode cL_law 2009 = .ok (.aload_n 1, 1) := by decide +kernel
theorem dL_law_2010 : decode cL_law 2010 = .ok (.invokevirtual 298, 3) := by decide +kernel
theorem dL_law_2013 : decode cL_law 2013 = .ok (.aload_n 2, 1) := by decide +kernel
theorem dL_law_2014 : decode cL_law 2014 = .ok (.invokevirtual 302, 3) := by decide +kernel
theorem dL_law_2017 : decode cL_law 2017 = .ok (.if_icmp .eq 667, 3) := by decide +kernel
theorem dL_law_2020 : decode cL_law 2020 = .ok (.iconst 0, 1) := by decide +kernel
theorem dL_law_2021 : decode cL_law 2021 = .ok (.ireturn, 1) := by decide +kernel
theorem dL_law_2022 : decode cL_law 2022 = .ok (.aload_n 1, 1) := by decide +kernel
theorem dL_law_2023 : decode cL_law 2023 = .ok (.invokevirtual 303, 3) := by decide +kernel
theorem dL_law_2026 : decode cL_law 2026 = .ok (.dstore 6, 2) := by decide +kernel
theorem dL_law_2028 : decode cL_law 2028 = .ok (.aload_n 2, 1) := by decide +kernel
theorem dL_law_2029 : decode cL_law 2029 = .ok (.invokevirtual 307, 3) := by decide +kernel
theorem dL_law_2032 : decode cL_law 2032 = .ok (.dstore 8, 2) := by decide +kernel
theorem dL_law_2034 : decode cL_law 2034 = .ok (.dload 6, 2) := by decide +kernel
theorem dL_law_2036 : decode cL_law 2036 = .ok (.dload 8, 2) := by decide +kernel
theorem dL_law_2038 : decode cL_law 2038 = .ok (.dcmp .l, 1) := by decide +kernel
theorem dL_law_2039 : decode cL_law 2039 = .ok (.ifCond .eq 21, 3) := by decide +kernel
theorem dL_law_2042 : decode cL_law 2042 = .ok (.dload 6, 2) := by decide +kernel
theorem dL_law_2044 : decode cL_law 2044 = .ok (.dload 6, 2) := by decide +kernel
theorem dL_law_2046 : decode cL_law 2046 = .ok (.dcmp .l, 1) := by decide +kernel
theorem dL_law_2047 : decode cL_law 2047 = .ok (.ifCond .eq 11, 3) := by decide +kernel
theorem dL_law_2050 : decode cL_law 2050 = .ok (.dload 8, 2) := by decide +kernel
theorem dL_law_2052 : decode cL_law 2052 = .ok (.dload 8, 2) := by decide +kernel
theorem dL_law_2054 : decode cL_law 2054 = .ok (.dcmp .l, 1) := by decide +kernel
theorem dL_law_2055 : decode cL_law 2055 = .ok (.ifCond .ne 5, 3) := by decide +kernel
theorem dL_law_2058 : decode cL_law 2058 = .ok (.iconst 0, 1) := by decide +kernel
theorem dL_law_2059 : decode cL_law 2059 = .ok (.ireturn, 1) := by decide +kernel
theorem dL_law_2060 : decode cL_law 2060 = .ok (.goto 624, 3) := by decide +kernel
theorem dL_law_2063 : decode cL_law 2063 = .ok (.aload_n 1, 1) := by decide +kernel
theorem dL_law_2064 : decode cL_law 2064 = .ok (.aload_n 0, 1) := by decide +kernel
theorem dL_law_2065 : decode cL_law 2065 = .ok (.iload 5, 2) := by decide +kernel
theorem dL_law_2067 : decode cL_law 2067 = .ok (.iconst 1, 1) := by decide +kernel
theorem dL_law_2068 : decode cL_law 2068 = .ok (.iadd, 1) := by decide +kernel
theorem dL_law_2069 : decode cL_law 2069 = .ok (.iaload, 1) := by decide +kernel
theorem dL_law_2070 : decode cL_law 2070 = .ok (.aload 4, 2) := by decide +kernel
theorem dL_law_2072 : decode cL_law 2072 = .ok (.invokestatic 308, 3) := by decide +kernel
theorem dL_law_2075 : decode cL_law 2075 = .ok (.istore 6, 2) := by decide +kernel
theorem dL_law_2077 : decode cL_law 2077 = .ok (.aload_n 2, 1) := by decide +kernel
theorem dL_law_2078 : decode cL_law 2078 = .ok (.aload_n 0, 1) := by decide +kernel
theorem dL_law_2079 : decode cL_law 2079 = .ok (.iload 5, 2) := by decide +kernel
theorem dL_law_2081 : decode cL_law 2081 = .ok (.iconst 1, 1) := by decide +kernel
theorem dL_law_2082 : decode cL_law 2082 = .ok (.iadd, 1) := by decide +kernel
theorem dL_law_2083 : decode cL_law 2083 = .ok (.iaload, 1) := by decide +kernel
theorem dL_law_2084 : decode cL_law 2084 = .ok (.invokevirtual 311, 3) := by decide +kernel
theorem dL_law_2087 : decode cL_law 2087 = .ok (.fstore 7, 2) := by decide +kernel
theorem dL_law_2089 : decode cL_law 2089 = .ok (.aload_n 2, 1) := by decide +kernel
theorem dL_law_2090 : decode cL_law 2090 = .ok (.invokevirtual 170, 3) := by decide +kernel
theorem dL_law_2093 : decode cL_law 2093 = .ok (.iload 6, 2) := by decide +kernel
theorem dL_law_2095 : decode cL_law 2095 = .ok (.if_icmp .eq 5, 3) := by decide +kernel
theorem dL_law_2098 : decode cL_law 2098 = .ok (.iconst 0, 1) := by decide +kernel
theorem dL_law_2099 : decode cL_law 2099 = .ok (.ireturn, 1) := by decide +kernel
theorem dL_law_2100 : decode cL_law 2100 = .ok (.iload 6, 2) := by decide +kernel
theorem dL_law_2102 : decode cL_law 2102 = .ok (.ifCond .ne 36, 3) := by decide +kernel
theorem dL_law_2105 : decode cL_law 2105 = .ok (.aload 4, 2) := by decide +kernel
theorem dL_law_2107 : decode cL_law 2107 = .ok (.iconst 0, 1) := by decide +kernel
theorem dL_law_2108 : decode cL_law 2108 = .ok (.daload, 1) := by decide +kernel
theorem dL_law_2109 : decode cL_law 2109 = .ok (.fload 7, 2) := by decide +kernel
theorem dL_law_2111 : decode cL_law 2111 = .ok (.f2d, 1) := by decide +kernel
theorem dL_law_2112 : decode cL_law 2112 = .ok (.dcmp .l, 1) := by decide +kernel
theorem dL_law_2113 : decode cL_law 2113 = .ok (.ifCond .eq 25, 3) := by decide +kernel
theorem dL_law_2116 : decode cL_law 2116 = .ok (.aload 4, 2) := by decide +kernel
theorem dL_law_2118 : decode cL_law 2118 = .ok (.iconst 0, 1) := by decide +kernel
theorem dL_law_2119 : decode cL_law 2119 = .ok (.daload, 1) := by decide +kernel
theorem dL_law_2120 : decode cL_law 2120 = .ok (.aload 4, 2) := by decide +kernel
theorem dL_law_2122 : decode cL_law 2122 = .ok (.iconst 0, 1) := by decide +kernel
theorem dL_law_2123 : decode cL_law 2123 = .ok (.daload, 1) := by decide +kernel
theorem dL_law_2124 : decode cL_law 2124 = .ok (.dcmp .l, 1) := by decide +kernel
theorem dL_law_2125 : decode cL_law 2125 = .ok (.ifCond .eq 11, 3) := by decide +kernel
theorem dL_law_2128 : decode cL_law 2128 = .ok (.fload 7, 2) := by decide +kernel
theorem dL_law_2130 : decode cL_law 2130 = .ok (.fload 7, 2) := by decide +kernel
theorem dL_law_2132 : decode cL_law 2132 = .ok (.fcmp .l, 1) := by decide +kernel
theorem dL_law_2133 : decode cL_law 2133 = .ok (.ifCond .ne 5, 3) := by decide +kernel
theorem dL_law_2136 : decode cL_law 2136 = .ok (.iconst 0, 1) := by decide +kernel
theorem dL_law_2137 : decode cL_law 2137 = .ok (.ireturn, 1) := by decide +kernel
theorem dL_law_2138 : decode cL_law 2138 = .ok (.goto 546, 3) := by decide +kernel
theorem dL_law_2141 : decode cL_law 2141 = .ok (.aload_n 1, 1) := by decide +kernel
theorem dL_law_2142 : decode cL_law 2142 = .ok (.aload_n 0, 1) := by decide +kernel
theorem dL_law_2143 : decode cL_law 2143 = .ok (.iload 5, 2) := by decide +kernel
theorem dL_law_2145 : decode cL_law 2145 = .ok (.iconst 1, 1) := by decide +kernel
theorem dL_law_2146 : decode cL_law 2146 = .ok (.iadd, 1) := by decide +kernel
theorem dL_law_2147 : decode cL_law 2147 = .ok (.iaload, 1) := by decide +kernel
theorem dL_law_2148 : decode cL_law 2148 = .ok (.aload_n 3, 1) := by decide +kernel
theorem dL_law_2149 : decode cL_law 2149 = .ok (.invokestatic 312, 3) := by decide +kernel
theorem dL_law_2152 : decode cL_law 2152 = .ok (.istore 6, 2) := by decide +kernel
theorem dL_law_2154 : decode cL_law 2154 = .ok (.aload_n 2, 1) := by decide +kernel
theorem dL_law_2155 : decode cL_law 2155 = .ok (.aload_n 0, 1) := by decide +kernel
theorem dL_law_2156 : decode cL_law 2156 = .ok (.iload 5, 2) := by decide +kernel
theorem dL_law_2158 : decode cL_law 2158 = .ok (.iconst 1, 1) := by decide +kernel
theorem dL_law_2159 : decode cL_law 2159 = .ok (.iadd, 1) := by decide +kernel
theorem dL_law_2160 : decode cL_law 2160 = .ok (.iaload, 1) := by decide +kernel
theorem dL_law_2161 : decode cL_law 2161 = .ok (.invokevirtual 314, 3) := by decide +kernel
theorem dL_law_2164 : decode cL_law 2164 = .ok (.istore 7, 2) := by decide +kernel
theorem dL_law_2166 : decode cL_law 2166 = .ok (.aload_n 2, 1) := by decide +kernel
theorem dL_law_2167 : decode cL_law 2167 = .ok (.invokevirtual 170, 3) := by decide +kernel
theorem dL_law_2170 : decode cL_law 2170 = .ok (.iload 6, 2) := by decide +kernel
theorem dL_law_2172 : decode cL_law 2172 = .ok (.if_icmp .eq 5, 3) := by decide +kernel
theorem dL_law_2175 : decode cL_law 2175 = .ok (.iconst 0, 1) := by decide +kernel
theorem dL_law_2176 : decode cL_law 2176 = .ok (.ireturn, 1) := by decide +kernel
theorem dL_law_2177 : decode cL_law 2177 = .ok (.iload 6, 2) := by decide +kernel
theorem dL_law_2179 : decode cL_law 2179 = .ok (.ifCond .ne 15, 3) := by decide +kernel
theorem dL_law_2182 : decode cL_law 2182 = .ok (.aload_n 3, 1) := by decide +kernel
theorem dL_law_2183 : decode cL_law 2183 = .ok (.iconst 0, 1) := by decide +kernel
theorem dL_law_2184 : decode cL_law 2184 = .ok (.laload, 1) := by decide +kernel
theorem dL_law_2185 : decode cL_law 2185 = .ok (.iload 7, 2) := by decide +kernel
theorem dL_law_2187 : decode cL_law 2187 = .ok (.i2l, 1) := by decide +kernel
theorem dL_law_2188 : decode cL_law 2188 = .ok (.lcmp, 1) := by decide +kernel
theorem dL_law_2189 : decode cL_law 2189 = .ok (.ifCond .eq 5, 3) := by decide +kernel
theorem dL_law_2192 : decode cL_law 2192 = .ok (.iconst 0, 1) := by decide +kernel
theorem dL_law_2193 : decode cL_law 2193 = .ok (.ireturn, 1) := by decide +kernel
theorem dL_law_2194 : decode cL_law 2194 = .ok (.goto 490, 3) := by decide +kernel
theorem dL_law_2197 : decode cL_law 2197 = .ok (.aload_n 1, 1) := by decide +kernel
theorem dL_law_2198 : decode cL_law 2198 = .ok (.aload_n 0, 1) := by decide +kernel
theorem dL_law_2199 : decode cL_law 2199 = .ok (.iload 5, 2) := by decide +kernel
theorem dL_law_2201 : decode cL_law 2201 = .ok (.iconst 1, 1) := by decide +kernel
theorem dL_law_2202 : decode cL_law 2202 = .ok (.iadd, 1) := by decide +kernel
theorem dL_law_2203 : decode cL_law 2203 = .ok (.iaload, 1) := by decide +kernel
theorem dL_law_2204 : decode cL_law 2204 = .ok (.aload_n 3, 1) := by decide +kernel
theorem dL_law_2205 : decode cL_law 2205 = .ok (.invokestatic 315, 3) := by decide +kernel
theorem dL_law_2208 : decode cL_law 2208 = .ok (.istore 6, 2) := by decide +kernel
theorem dL_law_2210 : decode cL_law 2210 = .ok (.aload_n 2, 1) := by decide +kernel
theorem dL_law_2211 : decode cL_law 2211 = .ok (.aload_n 0, 1) := by decide +kernel
theorem dL_law_2212 : decode cL_law 2212 = .ok (.iload 5, 2) := by decide +kernel
theorem dL_law_2214 : decode cL_law 2214 = .ok (.iconst 1, 1) := by decide +kernel
theorem dL_law_2215 : decode cL_law 2215 = .ok (.iadd, 1) := by decide +kernel
theorem dL_law_2216 : decode cL_law 2216 = .ok (.iaload, 1) := by decide +kernel
theorem dL_law_2217 : decode cL_law 2217 = .ok (.invokevirtual 317, 3) := by decide +kernel
theorem dL_law_2220 : decode cL_law 2220 = .ok (.istore 7, 2) := by decide +kernel
theorem dL_law_2222 : decode cL_law 2222 = .ok (.aload_n 2, 1) := by decide +kernel
theorem dL_law_2223 : decode cL_law 2223 = .ok (.invokevirtual 170, 3) := by decide +kernel
theorem dL_law_2226 : decode cL_law 2226 = .ok (.iload 6, 2) := by decide +kernel
theorem dL_law_2228 : decode cL_law 2228 = .ok (.if_icmp .eq 5, 3) := by decide +kernel
theorem dL_law_2231 : decode cL_law 2231 = .ok (.iconst 0, 1) := by decide +kernel
theorem dL_law_2232 : decode cL_law 2232 = .ok (.ireturn, 1) := by decide +kernel
theorem dL_law_2233 : decode cL_law 2233 = .ok (.iload 6, 2) := by decide +kernel
theorem dL_law_2235 : decode cL_law 2235 = .ok (.ifCond .ne 15, 3) := by decide +kernel
theorem dL_law_2238 : decode cL_law 2238 = .ok (.aload_n 3, 1) := by decide +kernel
theorem dL_law_2239 : decode cL_law 2239 = .ok (.iconst 0, 1) := by decide +kernel
theorem dL_law_2240 : decode cL_law 2240 = .ok (.laload, 1) := by decide +kernel
theorem dL_law_2241 : decode cL_law 2241 = .ok (.iload 7, 2) := by decide +kernel
theorem dL_law_2243 : decode cL_law 2243 = .ok (.i2l, 1) := by decide +kernel
theorem dL_law_2244 : decode cL_law 2244 = .ok (.lcmp, 1) := by decide +kernel
theorem dL_law_2245 : decode cL_law 2245 = .ok (.ifCond .eq 5, 3) := by decide +kernel
theorem dL_law_2248 : decode cL_law 2248 = .ok (.iconst 0, 1) := by decide +kernel
theorem dL_law_2249 : decode cL_law 2249 = .ok (.ireturn, 1) := by decide +kernel
theorem dL_law_2250 : decode cL_law 2250 = .ok (.goto 434, 3) := by decide +kernel
theorem dL_law_2253 : decode cL_law 2253 = .ok (.aload_n 1, 1) := by decide +kernel
theorem dL_law_2254 : decode cL_law 2254 = .ok (.aload_n 0, 1) := by decide +kernel
theorem dL_law_2255 : decode cL_law 2255 = .ok (.iload 5, 2) := by decide +kernel
theorem dL_law_2257 : decode cL_law 2257 = .ok (.iconst 1, 1) := by decide +kernel
theorem dL_law_2258 : decode cL_law 2258 = .ok (.iadd, 1) := by decide +kernel
theorem dL_law_2259 : decode cL_law 2259 = .ok (.iaload, 1) := by decide +kernel
theorem dL_law_2260 : decode cL_law 2260 = .ok (.aload_n 3, 1) := by decide +kernel
theorem dL_law_2261 : decode cL_law 2261 = .ok (.invokestatic 318, 3) := by decide +kernel
theorem dL_law_2264 : decode cL_law 2264 = .ok (.istore 6, 2) := by decide +kernel
theorem dL_law_2266 : decode cL_law 2266 = .ok (.aload_n 2, 1) := by decide +kernel
theorem dL_law_2267 : decode cL_law 2267 = .ok (.aload_n 0, 1) := by decide +kernel
theorem dL_law_2268 : decode cL_law 2268 = .ok (.iload 5, 2) := by decide +kernel
theorem dL_law_2270 : decode cL_law 2270 = .ok (.iconst 1, 1) := by decide +kernel
theorem dL_law_2271 : decode cL_law 2271 = .ok (.iadd, 1) := by decide +kernel
theorem dL_law_2272 : decode cL_law 2272 = .ok (.iaload, 1) := by decide +kernel
theorem dL_law_2273 : decode cL_law 2273 = .ok (.invokevirtual 320, 3) := by decide +kernel
theorem dL_law_2276 : decode cL_law 2276 = .ok (.istore 7, 2) := by decide +kernel
theorem dL_law_2278 : decode cL_law 2278 = .ok (.aload_n 2, 1) := by decide +kernel
theorem dL_law_2279 : decode cL_law 2279 = .ok (.invokevirtual 170, 3) := by decide +kernel
theorem dL_law_2282 : decode cL_law 2282 = .ok (.iload 6, 2) := by decide +kernel
theorem dL_law_2284 : decode cL_law 2284 = .ok (.if_icmp .eq 5, 3) := by decide +kernel
theorem dL_law_2287 : decode cL_law 2287 = .ok (.iconst 0, 1) := by decide +kernel
theorem dL_law_2288 : decode cL_law 2288 = .ok (.ireturn, 1) := by decide +kernel
theorem dL_law_2289 : decode cL_law 2289 = .ok (.iload 6, 2) := by decide +kernel
theorem dL_law_2291 : decode cL_law 2291 = .ok (.ifCond .ne 15, 3) := by decide +kernel
theorem dL_law_2294 : decode cL_law 2294 = .ok (.aload_n 3, 1) := by decide +kernel
theorem dL_law_2295 : decode cL_law 2295 = .ok (.iconst 0, 1) := by decide +kernel
theorem dL_law_2296 : decode cL_law 2296 = .ok (.laload, 1) := by decide +kernel
theorem dL_law_2297 : decode cL_law 2297 = .ok (.iload 7, 2) := by decide +kernel
theorem dL_law_2299 : decode cL_law 2299 = .ok (.i2l, 1) := by decide +kernel
theorem dL_law_2300 : decode cL_law 2300 = .ok (.lcmp, 1) := by decide +kernel
theorem dL_law_2301 : decode cL_law 2301 = .ok (.ifCond .eq 5, 3) := by decide +kernel
theorem dL_law_2304 : decode cL_law 2304 = .ok (.iconst 0, 1) := by decide +kernel
theorem dL_law_2305 : decode cL_law 2305 = .ok (.ireturn, 1) := by decide +kernel
theorem dL_law_2306 : decode cL_law 2306 = .ok (.goto 378, 3) := by decide +kernel
theorem dL_law_2309 : decode cL_law 2309 = .ok (.aload_n 1, 1) := by decide +kernel
theorem dL_law_2310 : decode cL_law 2310 = .ok (.aload_n 0, 1) := by decide +kernel
theorem dL_law_2311 : decode cL_law 2311 = .ok (.iload 5, 2) := by decide +kernel
theorem dL_law_2313 : decode cL_law 2313 = .ok (.iconst 1, 1) := by decide +kernel
theorem dL_law_2314 : decode cL_law 2314 = .ok (.iadd, 1) := by decide +kernel
theorem dL_law_2315 : decode cL_law 2315 = .ok (.iaload, 1) := by decide +kernel
theorem dL_law_2316 : decode cL_law 2316 = .ok (.aload_n 0, 1) := by decide +kernel
theorem dL_law_2317 : decode cL_law 2317 = .ok (.iload 5, 2) := by decide +kernel
theorem dL_law_2319 : decode cL_law 2319 = .ok (.iconst 2, 1) := by decide +kernel
theorem dL_law_2320 : decode cL_law 2320 = .ok (.iadd, 1) := by decide +kernel
theorem dL_law_2321 : decode cL_law 2321 = .ok (.iaload, 1) := by decide +kernel
theorem dL_law_2322 : decode cL_law 2322 = .ok (.aload_n 3, 1) := by decide +kernel
theorem dL_law_2323 : decode cL_law 2323 = .ok (.invokestatic 321, 3) := by decide +kernel
theorem dL_law_2326 : decode cL_law 2326 = .ok (.istore 6, 2) := by decide +kernel
theorem dL_law_2328 : decode cL_law 2328 = .ok (.aload_n 2, 1) := by decide +kernel
theorem dL_law_2329 : decode cL_law 2329 = .ok (.aload_n 0, 1) := by decide +kernel
theorem dL_law_2330 : decode cL_law 2330 = .ok (.iload 5, 2) := by decide +kernel
theorem dL_law_2332 : decode cL_law 2332 = .ok (.iconst 1, 1) := by decide +kernel
theorem dL_law_2333 : decode cL_law 2333 = .ok (.iadd, 1) := by decide +kernel
theorem dL_law_2334 : decode cL_law 2334 = .ok (.iaload, 1) := by decide +kernel
theorem dL_law_2335 : decode cL_law 2335 = .ok (.aload_n 0, 1) := by decide +kernel
theorem dL_law_2336 : decode cL_law 2336 = .ok (.iload 5, 2) := by decide +kernel
theorem dL_law_2338 : decode cL_law 2338 = .ok (.iconst 2, 1) := by decide +kernel
theorem dL_law_2339 : decode cL_law 2339 = .ok (.iadd, 1) := by decide +kernel
theorem dL_law_2340 : decode cL_law 2340 = .ok (.iaload, 1) := by decide +kernel
theorem dL_law_2341 : decode cL_law 2341 = .ok (.invokevirtual 323, 3) := by decide +kernel
theorem dL_law_2344 : decode cL_law 2344 = .ok (.istore 7, 2) := by decide +kernel
theorem dL_law_2346 : decode cL_law 2346 = .ok (.aload_n 2, 1) := by decide +kernel
theorem dL_law_2347 : decode cL_law 2347 = .ok (.invokevirtual 170, 3) := by decide +kernel
theorem dL_law_2350 : decode cL_law 2350 = .ok (.iload 6, 2) := by decide +kernel
theorem dL_law_2352 : decode cL_law 2352 = .ok (.if_icmp .eq 5, 3) := by decide +kernel
theorem dL_law_2355 : decode cL_law 2355 = .ok (.iconst 0, 1) := by decide +kernel
theorem dL_law_2356 : decode cL_law 2356 = .ok (.ireturn, 1) := by decide +kernel
theorem dL_law_2357 : decode cL_law 2357 = .ok (.iload 6, 2) := by decide +kernel
theorem dL_law_2359 : decode cL_law 2359 = .ok (.ifCond .ne 15, 3) := by decide +kernel
theorem dL_law_2362 : decode cL_law 2362 = .ok (.aload_n 3, 1) := by decide +kernel
theorem dL_law_2363 : decode cL_law 2363 = .ok (.iconst 0, 1) := by decide +kernel
theorem dL_law_2364 : decode cL_law 2364 = .ok (.laload, 1) := by decide +kernel
theorem dL_law_2365 : decode cL_law 2365 = .ok (.iload 7, 2) := by decide +kernel
theorem dL_law_2367 : decode cL_law 2367 = .ok (.i2l, 1) := by decide +kernel
theorem dL_law_2368 : decode cL_law 2368 = .ok (.lcmp, 1) := by decide +kernel
theorem dL_law_2369 : decode cL_law 2369 = .ok (.ifCond .eq 5, 3) := by decide +kernel
theorem dL_law_2372 : decode cL_law 2372 = .ok (.iconst 0, 1) := by decide +kernel
theorem dL_law_2373 : decode cL_law 2373 = .ok (.ireturn, 1) := by decide +kernel
theorem dL_law_2374 : decode cL_law 2374 = .ok (.goto 310, 3) := by decide +kernel
theorem dL_law_2377 : decode cL_law 2377 = .ok (.aload_n 1, 1) := by decide +kernel
theorem dL_law_2378 : decode cL_law 2378 = .ok (.aload_n 0, 1) := by decide +kernel
theorem dL_law_2379 : decode cL_law 2379 = .ok (.iload 5, 2) := by decide +kernel
theorem dL_law_2381 : decode cL_law 2381 = .ok (.iconst 1, 1) := by decide +kernel
theorem dL_law_2382 : decode cL_law 2382 = .ok (.iadd, 1) := by decide +kernel
theorem dL_law_2383 : decode cL_law 2383 = .ok (.iaload, 1) := by decide +kernel
theorem dL_law_2384 : decode cL_law 2384 = .ok (.aload_n 0, 1) := by decide +kernel
theorem dL_law_2385 : decode cL_law 2385 = .ok (.iload 5, 2) := by decide +kernel
theorem dL_law_2387 : decode cL_law 2387 = .ok (.iconst 2, 1) := by decide +kernel
theorem dL_law_2388 : decode cL_law 2388 = .ok (.iadd, 1) := by decide +kernel
theorem dL_law_2389 : decode cL_law 2389 = .ok (.iaload, 1) := by decide +kernel
theorem dL_law_2390 : decode cL_law 2390 = .ok (.aload_n 3, 1) := by decide +kernel
theorem dL_law_2391 : decode cL_law 2391 = .ok (.invokestatic 324, 3) := by decide +kernel
theorem dL_law_2394 : decode cL_law 2394 = .ok (.istore 6, 2) := by decide +kernel
theorem dL_law_2396 : decode cL_law 2396 = .ok (.aload_n 2, 1) := by decide +kernel
theorem dL_law_2397 : decode cL_law 2397 = .ok (.aload_n 0, 1) := by decide +kernel
theorem dL_law_2398 : decode cL_law 2398 = .ok (.iload 5, 2) := by decide +kernel
theorem dL_law_2400 : decode cL_law 2400 = .ok (.iconst 1, 1) := by decide +kernel
theorem dL_law_2401 : decode cL_law 2401 = .ok (.iadd, 1) := by decide +kernel
theorem dL_law_2402 : decode cL_law 2402 = .ok (.iaload, 1) := by decide +kernel
theorem dL_law_2403 : decode cL_law 2403 = .ok (.aload_n 0, 1) := by decide +kernel
theorem dL_law_2404 : decode cL_law 2404 = .ok (.iload 5, 2) := by decide +kernel
theorem dL_law_2406 : decode cL_law 2406 = .ok (.iconst 2, 1) := by decide +kernel
theorem dL_law_2407 : decode cL_law 2407 = .ok (.iadd, 1) := by decide +kernel
theorem dL_law_2408 : decode cL_law 2408 = .ok (.iaload, 1) := by decide +kernel
theorem dL_law_2409 : decode cL_law 2409 = .ok (.invokevirtual 326, 3) := by decide +kernel
theorem dL_law_2412 : decode cL_law 2412 = .ok (.istore 7, 2) := by decide +kernel
theorem dL_law_2414 : decode cL_law 2414 = .ok (.aload_n 2, 1) := by decide +kernel
theorem dL_law_2415 : decode cL_law 2415 = .ok (.invokevirtual 170, 3) := by decide +kernel
theorem dL_law_2418 : decode cL_law 2418 = .ok (.iload 6, 2) := by decide +kernel
theorem dL_law_2420 : decode cL_law 2420 = .ok (.if_icmp .eq 5, 3) := by decide +kernel
theorem dL_law_2423 : decode cL_law 2423 = .ok (.iconst 0, 1) := by decide +kernel
theorem dL_law_2424 : decode cL_law 2424 = .ok (.ireturn, 1) := by decide +kernel
theorem dL_law_2425 : decode cL_law 2425 = .ok (.iload 6, 2) := by decide +kernel
theorem dL_law_2427 : decode cL_law 2427 = .ok (.ifCond .ne 15, 3) := by decide +kernel
theorem dL_law_2430 : decode cL_law 2430 = .ok (.aload_n 3, 1) := by decide +kernel
theorem dL_law_2431 : decode cL_law 2431 = .ok (.iconst 0, 1) := by decide +kernel
theorem dL_law_2432 : decode cL_law 2432 = .ok (.laload, 1) := by decide +kernel
theorem dL_law_2433 : decode cL_law 2433 = .ok (.iload 7, 2) := by decide +kernel
theorem dL_law_2435 : decode cL_law 2435 = .ok (.i2l, 1) := by decide +kernel
theorem dL_law_2436 : decode cL_law 2436 = .ok (.lcmp, 1) := by decide +kernel
theorem dL_law_2437 : decode cL_law 2437 = .ok (.ifCond .eq 5, 3) := by decide +kernel
theorem dL_law_2440 : decode cL_law 2440 = .ok (.iconst 0, 1) := by decide +kernel
theorem dL_law_2441 : decode cL_law 2441 = .ok (.ireturn, 1) := by decide +kernel
theorem dL_law_2442 : decode cL_law 2442 = .ok (.goto 242, 3) := by decide +kernel
theorem dL_law_2445 : decode cL_law 2445 = .ok (.aload_n 1, 1) := by decide +kernel
theorem dL_law_2446 : decode cL_law 2446 = .ok (.aload_n 3, 1) := by decide +kernel
theorem dL_law_2447 : decode cL_law 2447 = .ok (.invokestatic 327, 3) := by decide +kernel
theorem dL_law_2450 : decode cL_law 2450 = .ok (.istore 6, 2) := by decide +kernel
theorem dL_law_2452 : decode cL_law 2452 = .ok (.aload_n 2, 1) := by decide +kernel
theorem dL_law_2453 : decode cL_law 2453 = .ok (.invokevirtual 330, 3) := by decide +kernel
theorem dL_law_2456 : decode cL_law 2456 = .ok (.istore 7, 2) := by decide +kernel
theorem dL_law_2458 : decode cL_law 2458 = .ok (.aload_n 2, 1) := by decide +kernel
theorem dL_law_2459 : decode cL_law 2459 = .ok (.invokevirtual 170, 3) := by decide +kernel
theorem dL_law_2462 : decode cL_law 2462 = .ok (.iload 6, 2) := by decide +kernel
theorem dL_law_2464 : decode cL_law 2464 = .ok (.if_icmp .eq 5, 3) := by decide +kernel
theorem dL_law_2467 : decode cL_law 2467 = .ok (.iconst 0, 1) := by decide +kernel
theorem dL_law_2468 : decode cL_law 2468 = .ok (.ireturn, 1) := by decide +kernel
theorem dL_law_2469 : decode cL_law 2469 = .ok (.iload 6, 2) := by decide +kernel
theorem dL_law_2471 : decode cL_law 2471 = .ok (.ifCond .ne 15, 3) := by decide +kernel
theorem dL_law_2474 : decode cL_law 2474 = .ok (.aload_n 3, 1) := by decide +kernel
theorem dL_law_2475 : decode cL_law 2475 = .ok (.iconst 0, 1) := by decide +kernel
theorem dL_law_2476 : decode cL_law 2476 = .ok (.laload, 1) := by decide +kernel
theorem dL_law_2477 : decode cL_law 2477 = .ok (.iload 7, 2) := by decide +kernel
theorem dL_law_2479 : decode cL_law 2479 = .ok (.i2l, 1) := by decide +kernel
theorem dL_law_2480 : decode cL_law 2480 = .ok (.lcmp, 1) := by decide +kernel
theorem dL_law_2481 : decode cL_law 2481 = .ok (.ifCond .eq 5, 3) := by decide +kernel
theorem dL_law_2484 : decode cL_law 2484 = .ok (.iconst 0, 1) := by decide +kernel
theorem dL_law_2485 : decode cL_law 2485 = .ok (.ireturn, 1) := by decide +kernel
theorem dL_law_2486 : decode cL_law 2486 = .ok (.goto 198, 3) := by decide +kernel
theorem dL_law_2489 : decode cL_law 2489 = .ok (.aload_n 1, 1) := by decide +kernel
theorem dL_law_2490 : decode cL_law 2490 = .ok (.aload_n 0, 1) := by decide +kernel
theorem dL_law_2491 : decode cL_law 2491 = .ok (.iload 5, 2) := by decide +kernel
theorem dL_law_2493 : decode cL_law 2493 = .ok (.iconst 1, 1) := by decide +kernel
theorem dL_law_2494 : decode cL_law 2494 = .ok (.iadd, 1) := by decide +kernel
theorem dL_law_2495 : decode cL_law 2495 = .ok (.iaload, 1) := by decide +kernel
theorem dL_law_2496 : decode cL_law 2496 = .ok (.aload_n 3, 1) := by decide +kernel
theorem dL_law_2497 : decode cL_law 2497 = .ok (.invokestatic 331, 3) := by decide +kernel
theorem dL_law_2500 : decode cL_law 2500 = .ok (.istore 6, 2) := by decide +kernel
theorem dL_law_2502 : decode cL_law 2502 = .ok (.aload_n 2, 1) := by decide +kernel
theorem dL_law_2503 : decode cL_law 2503 = .ok (.aload_n 0, 1) := by decide +kernel
theorem dL_law_2504 : decode cL_law 2504 = .ok (.iload 5, 2) := by decide +kernel
theorem dL_law_2506 : decode cL_law 2506 = .ok (.iconst 1, 1) := by decide +kernel
theorem dL_law_2507 : decode cL_law 2507 = .ok (.iadd, 1) := by decide +kernel
theorem dL_law_2508 : decode cL_law 2508 = .ok (.iaload, 1) := by decide +kernel
theorem dL_law_2509 : decode cL_law 2509 = .ok (.invokevirtual 333, 3) := by decide +kernel
theorem dL_law_2512 : decode cL_law 2512 = .ok (.istore 7, 2) := by decide +kernel
theorem dL_law_2514 : decode cL_law 2514 = .ok (.aload_n 2, 1) := by decide +kernel
theorem dL_law_2515 : decode cL_law 2515 = .ok (.invokevirtual 170, 3) := by decide +kernel
theorem dL_law_2518 : decode cL_law 2518 = .ok (.iload 6, 2) := by decide +kernel
theorem dL_law_2520 : decode cL_law 2520 = .ok (.if_icmp .eq 5, 3) := by decide +kernel
theorem dL_law_2523 : decode cL_law 2523 = .ok (.iconst 0, 1) := by decide +kernel
theorem dL_law_2524 : decode cL_law 2524 = .ok (.ireturn, 1) := by decide +kernel
theorem dL_law_2525 : decode cL_law 2525 = .ok (.iload 6, 2) := by decide +kernel
theorem dL_law_2527 : decode cL_law 2527 = .ok (.ifCond .ne 15, 3) := by decide +kernel
theorem dL_law_2530 : decode cL_law 2530 = .ok (.aload_n 3, 1) := by decide +kernel
theorem dL_law_2531 : decode cL_law 2531 = .ok (.iconst 0, 1) := by decide +kernel
theorem dL_law_2532 : decode cL_law 2532 = .ok (.laload, 1) := by decide +kernel
theorem dL_law_2533 : decode cL_law 2533 = .ok (.iload 7, 2) := by decide +kernel
theorem dL_law_2535 : decode cL_law 2535 = .ok (.i2l, 1) := by decide +kernel
theorem dL_law_2536 : decode cL_law 2536 = .ok (.lcmp, 1) := by decide +kernel
theorem dL_law_2537 : decode cL_law 2537 = .ok (.ifCond .eq 5, 3) := by decide +kernel
theorem dL_law_2540 : decode cL_law 2540 = .ok (.iconst 0, 1) := by decide +kernel
theorem dL_law_2541 : decode cL_law 2541 = .ok (.ireturn, 1) := by decide +kernel
theorem dL_law_2542 : decode cL_law 2542 = .ok (.goto 142, 3) := by decide +kernel
theorem dL_law_2545 : decode cL_law 2545 = .ok (.aload_n 1, 1) := by decide +kernel
theorem dL_law_2546 : decode cL_law 2546 = .ok (.aload_n 3, 1) := by decide +kernel
theorem dL_law_2547 : decode cL_law 2547 = .ok (.invokestatic 334, 3) := by decide +kernel
theorem dL_law_2550 : decode cL_law 2550 = .ok (.istore 6, 2) := by decide +kernel
theorem dL_law_2552 : decode cL_law 2552 = .ok (.aload_n 2, 1) := by decide +kernel
theorem dL_law_2553 : decode cL_law 2553 = .ok (.invokevirtual 336, 3) := by decide +kernel
theorem dL_law_2556 : decode cL_law 2556 = .ok (.istore 7, 2) := by decide +kernel
theorem dL_law_2558 : decode cL_law 2558 = .ok (.aload_n 2, 1) := by decide +kernel
theorem dL_law_2559 : decode cL_law 2559 = .ok (.invokevirtual 170, 3) := by decide +kernel
theorem dL_law_2562 : decode cL_law 2562 = .ok (.iload 6, 2) := by decide +kernel
theorem dL_law_2564 : decode cL_law 2564 = .ok (.if_icmp .eq 5, 3) := by decide +kernel
theorem dL_law_2567 : decode cL_law 2567 = .ok (.iconst 0, 1) := by decide +kernel
theorem dL_law_2568 : decode cL_law 2568 = .ok (.ireturn, 1) := by decide +kernel
theorem dL_law_2569 : decode cL_law 2569 = .ok (.iload 6, 2) := by decide +kernel
theorem dL_law_2571 : decode cL_law 2571 = .ok (.ifCond .ne 15, 3) := by decide +kernel
theorem dL_law_2574 : decode cL_law 2574 = .ok (.aload_n 3, 1) := by decide +kernel
theorem dL_law_2575 : decode cL_law 2575 = .ok (.iconst 0, 1) := by decide +kernel
theorem dL_law_2576 : decode cL_law 2576 = .ok (.laload, 1) := by decide +kernel
theorem dL_law_2577 : decode cL_law 2577 = .ok (.iload 7, 2) := by decide +kernel
theorem dL_law_2579 : decode cL_law 2579 = .ok (.i2l, 1) := by decide +kernel
theorem dL_law_2580 : decode cL_law 2580 = .ok (.lcmp, 1) := by decide +kernel
theorem dL_law_2581 : decode cL_law 2581 = .ok (.ifCond .eq 5, 3) := by decide +kernel
theorem dL_law_2584 : decode cL_law 2584 = .ok (.iconst 0, 1) := by decide +kernel
theorem dL_law_2585 : decode cL_law 2585 = .ok (.ireturn, 1) := by decide +kernel
theorem dL_law_2586 : decode cL_law 2586 = .ok (.goto 98, 3) := by decide +kernel
theorem dL_law_2589 : decode cL_law 2589 = .ok (.aload_n 1, 1) := by decide +kernel
theorem dL_law_2590 : decode cL_law 2590 = .ok (.invokevirtual 337, 3) := by decide +kernel
theorem dL_law_2593 : decode cL_law 2593 = .ok (.aload_n 2, 1) := by decide +kernel
theorem dL_law_2594 : decode cL_law 2594 = .ok (.invokevirtual 340, 3) := by decide +kernel
theorem dL_law_2597 : decode cL_law 2597 = .ok (.if_icmp .eq 87, 3) := by decide +kernel
theorem dL_law_2600 : decode cL_law 2600 = .ok (.iconst 0, 1) := by decide +kernel
theorem dL_law_2601 : decode cL_law 2601 = .ok (.ireturn, 1) := by decide +kernel
theorem dL_law_2602 : decode cL_law 2602 = .ok (.aload_n 1, 1) := by decide +kernel
theorem dL_law_2603 : decode cL_law 2603 = .ok (.aload_n 0, 1) := by decide +kernel
theorem dL_law_2604 : decode cL_law 2604 = .ok (.iload 5, 2) := by decide +kernel
theorem dL_law_2606 : decode cL_law 2606 = .ok (.iconst 1, 1) := by decide +kernel
theorem dL_law_2607 : decode cL_law 2607 = .ok (.iadd, 1) := by decide +kernel
theorem dL_law_2608 : decode cL_law 2608 = .ok (.iaload, 1) := by decide +kernel
theorem dL_law_2609 : decode cL_law 2609 = .ok (.invokevirtual 341, 3) := by decide +kernel
theorem dL_law_2612 : decode cL_law 2612 = .ok (.aload_n 2, 1) := by decide +kernel
theorem dL_law_2613 : decode cL_law 2613 = .ok (.aload_n 0, 1) := by decide +kernel
theorem dL_law_2614 : decode cL_law 2614 = .ok (.iload 5, 2) := by decide +kernel
theorem dL_law_2616 : decode cL_law 2616 = .ok (.iconst 1, 1) := by decide +kernel
theorem dL_law_2617 : decode cL_law 2617 = .ok (.iadd, 1) := by decide +kernel
theorem dL_law_2618 : decode cL_law 2618 = .ok (.iaload, 1) := by decide +kernel
theorem dL_law_2619 : decode cL_law 2619 = .ok (.invokevirtual 344, 3) := by decide +kernel
theorem dL_law_2622 : decode cL_law 2622 = .ok (.if_icmp .eq 62, 3) := by decide +kernel
theorem dL_law_2625 : decode cL_law 2625 = .ok (.iconst 0, 1) := by decide +kernel
theorem dL_law_2626 : decode cL_law 2626 = .ok (.ireturn, 1) := by decide +kernel
theorem dL_law_2627 : decode cL_law 2627 = .ok (.aload_n 1, 1) := by decide +kernel
theorem dL_law_2628 : decode cL_law 2628 = .ok (.invokevirtual 345, 3) := by decide +kernel
theorem dL_law_2631 : decode cL_law 2631 = .ok (.aload_n 2, 1) := by decide +kernel
theorem dL_law_2632 : decode cL_law 2632 = .ok (.invokevirtual 348, 3) := by decide +kernel
theorem dL_law_2635 : decode cL_law 2635 = .ok (.if_icmp .eq 49, 3) := by decide +kernel
theorem dL_law_2638 : decode cL_law 2638 = .ok (.iconst 0, 1) := by decide +kernel
theorem dL_law_2639 : decode cL_law 2639 = .ok (.ireturn, 1) := by decide +kernel
theorem dL_law_2640 : decode cL_law 2640 = .ok (.aload_n 1, 1) := by decide +kernel
theorem dL_law_2641 : decode cL_law 2641 = .ok (.aload_n 3, 1) := by decide +kernel
theorem dL_law_2642 : decode cL_law 2642 = .ok (.invokestatic 349, 3) := by decide +kernel
theorem dL_law_2645 : decode cL_law 2645 = .ok (.istore 6, 2) := by decide +kernel
theorem dL_law_2647 : decode cL_law 2647 = .ok (.aload_n 2, 1) := by decide +kernel
theorem dL_law_2648 : decode cL_law 2648 = .ok (.invokevirtual 351, 3) := by decide +kernel
theorem dL_law_2651 : decode cL_law 2651 = .ok (.istore 7, 2) := by decide +kernel
theorem dL_law_2653 : decode cL_law 2653 = .ok (.aload_n 2, 1) := by decide +kernel
theorem dL_law_2654 : decode cL_law 2654 = .ok (.invokevirtual 170, 3) := by decide +kernel
theorem dL_law_2657 : decode cL_law 2657 = .ok (.iload 6, 2) := by decide +kernel
theorem dL_law_2659 : decode cL_law 2659 = .ok (.if_icmp .eq 5, 3) := by decide +kernel
theorem dL_law_2662 : decode cL_law 2662 = .ok (.iconst 0, 1) := by decide +kernel
theorem dL_law_2663 : decode cL_law 2663 = .ok (.ireturn, 1) := by decide +kernel
theorem dL_law_2664 : decode cL_law 2664 = .ok (.iload 6, 2) := by decide +kernel
theorem dL_law_2666 : decode cL_law 2666 = .ok (.ifCond .ne 15, 3) := by decide +kernel
theorem dL_law_2669 : decode cL_law 2669 = .ok (.aload_n 3, 1) := by decide +kernel
theorem dL_law_2670 : decode cL_law 2670 = .ok (.iconst 0, 1) := by decide +kernel
theorem dL_law_2671 : decode cL_law 2671 = .ok (.laload, 1) := by decide +kernel
theorem dL_law_2672 : decode cL_law 2672 = .ok (.iload 7, 2) := by decide +kernel
theorem dL_law_2674 : decode cL_law 2674 = .ok (.i2l, 1) := by decide +kernel
theorem dL_law_2675 : decode cL_law 2675 = .ok (.lcmp, 1) := by decide +kernel
theorem dL_law_2676 : decode cL_law 2676 = .ok (.ifCond .eq 5, 3) := by decide +kernel
theorem dL_law_2679 : decode cL_law 2679 = .ok (.iconst 0, 1) := by decide +kernel
theorem dL_law_2680 : decode cL_law 2680 = .ok (.ireturn, 1) := by decide +kernel
theorem dL_law_2681 : decode cL_law 2681 = .ok (.goto 3, 3) := by decide +kernel
theorem dL_law_2684 : decode cL_law 2684 = .ok (.iinc 5 6, 3) := by decide +kernel
theorem dL_law_2687 : decode cL_law 2687 = .ok (.goto (-2659), 3) := by decide +kernel
theorem dL_law_2690 : decode cL_law 2690 = .ok (.iconst 1, 1) := by decide +kernel
theorem dL_law_2691 : decode cL_law 2691 = .ok (.ireturn, 1) := by decide +kernel
